import java.util.NoSuchElementException;

public final class DarnEggs {
    public static final int NONE = -1;

    private static final int MOST_EGGS = 6;
    private static final int MOST_HANDS = 6;
    private static final int MOST_HOLES = 9;
    private static final int MOST_PATHS = 14;
    private static final int MOST_CLAUSES = 60;
    private static final int MOST_LINES = 8;
    private static final int MOST_OPEN = 6;
    private static final int MOST_WORKS = 16;
    private static final int MOST_IMAGES = 3;
    private static final int MOST_STEPS = 200;
    private static final int MOST_OF_ALL = 99;
    private static final int MOST_MEND = 20;
    private static final int LAST_DAY = 600;
    private static final int LONGEST_WHOLE = 200;
    private static final int ANGRY = 5;
    private static final int WOOL_AT_FIRST = 12;
    private static final int TAPE_BYTES = 600;
    private static final int FEED_BYTES = 20;
    private static final int LAW_BYTES = 150;
    private static final int WORK_BYTES = 150;
    private static final int BOOK_BYTES = 60;
    private static final int HOLE_SETS = 512;
    private static final int CANT_STAND = 1;
    private static final int NONE_SUCH = 2;
    private static final int TOO_MANY = 3;
    private static final int FAULT_LESS = 10;
    private static final int NO_ROOM_FOR_WORK = -20;

    private final Tape tape;
    private int faultPlace;
    private Village village;
    private Village spareVillage;
    private Law law;
    private Law spareLaw;
    private Book book;
    private Book spareBook;
    private final Steps steps;
    private final State now;
    private final State asked;
    private final Seed seeds;
    private final Past past;
    private final Images images;
    private final Giving giving;
    private final Walks walks;
    private int refusedSteps;
    private int refusedElements;
    private int refusedArguments;

    public DarnEggs() {
        tape = new Tape();
        faultPlace = NONE;
        village = new Village();
        spareVillage = new Village();
        law = new Law();
        spareLaw = new Law();
        book = new Book();
        spareBook = new Book();
        steps = new Steps();
        now = new State();
        asked = new State();
        seeds = new Seed();
        past = new Past();
        images = new Images();
        giving = new Giving();
        walks = new Walks();
    }

    public int feed(int a, int b, int c, int d, int e) {
        if (tape.size + FEED_BYTES > TAPE_BYTES) {
            return NONE;
        }
        tape.put(a);
        tape.put(b);
        tape.put(c);
        tape.put(d);
        tape.put(e);
        return tape.size;
    }

    public int village(int n) throws IllegalArgumentException {
        takeText(n, TAPE_BYTES);
        if (!spareVillage.read(tape)) {
            return faulted();
        }
        Village old = village;
        village = spareVillage;
        spareVillage = old;
        law.forget();
        book.forget();
        past.forget();
        images.forget();
        refusedSteps = 0;
        now.start(village);
        return village.holes;
    }

    public int law(int n) throws IllegalArgumentException {
        takeText(n, LAW_BYTES);
        if (!spareLaw.read(tape)) {
            return faulted();
        }
        Law old = law;
        law = spareLaw;
        spareLaw = old;
        return 1;
    }

    public int work(int n) throws IllegalArgumentException {
        takeText(n, WORK_BYTES);
        if (past.isFull()) {
            return NO_ROOM_FOR_WORK;
        }
        if (!steps.read(tape, village)) {
            return faulted();
        }
        past.push(now);
        steps.run(now, village, law);
        refusedSteps = steps.refused;
        return steps.done;
    }

    public int book(int n) throws IllegalArgumentException {
        takeText(n, BOOK_BYTES);
        if (!spareBook.read(tape, village.holes)) {
            return faulted();
        }
        Book old = book;
        book = spareBook;
        spareBook = old;
        return book.lines;
    }

    public int fault() {
        return faultPlace;
    }

    public int undo() {
        if (!past.pop(now)) {
            return NONE;
        }
        refusedSteps = 0;
        return past.size;
    }

    public int told(int what) throws IllegalArgumentException {
        switch (what) {
            case 0:
                return village.eggs;
            case 1:
                return village.hands;
            case 2:
                return village.holes;
            case 3:
                return village.paths;
            case 4:
                return now.day;
            case 5:
                return now.wool;
            case 6:
                return now.hatchedEggs(village);
            case 7:
                return now.eggsOut(village);
            case 8:
                return now.darned;
            case 9:
                return now.allWear(village);
            case 10:
                return book.lines;
            case 11:
                return refusedSteps;
            default:
                return refuseArgument();
        }
    }

    public int egg(int egg, int what) throws NoSuchElementException, IllegalArgumentException {
        needEgg(egg);
        switch (what) {
            case 0:
                return village.takes[egg];
            case 1:
                return now.heels[egg];
            case 2:
                return now.hooks[egg];
            case 3:
                return now.at[egg];
            case 4:
                return now.isHooked(egg) ? 1 : 0;
            case 5:
                return Math.max(0, village.takes[egg] - now.heels[egg]);
            default:
                return refuseArgument();
        }
    }

    public int hand(int hand, int what) throws NoSuchElementException, IllegalArgumentException {
        needHand(hand);
        switch (what) {
            case 0:
                return village.anger[hand];
            case 1:
                return now.darnedToday(hand) ? 1 : 0;
            case 2:
                return now.darns[hand];
            default:
                return refuseArgument();
        }
    }

    public int hole(int hole, int what) throws NoSuchElementException, IllegalArgumentException {
        needHole(hole);
        switch (what) {
            case 0:
                return now.wear[hole];
            case 1:
                return now.ridge[hole];
            case 2:
                return village.worn[hole];
            case 3:
                return village.near[hole];
            case 4:
                return now.eggsOutAt(village, hole);
            default:
                return refuseArgument();
        }
    }

    public int path(int path, int what) throws NoSuchElementException, IllegalArgumentException {
        if (path < 0 || path >= village.paths) {
            return refuseElement();
        }
        switch (what) {
            case 0:
                return village.pathFrom[path];
            case 1:
                return village.pathTo[path];
            default:
                return refuseArgument();
        }
    }

    public int mend(int hand, int egg, int hole) throws NoSuchElementException {
        needHand(hand);
        needEgg(egg);
        needHole(hole);
        return now.mendBy(village, law, hand, egg, hole);
    }

    // Eight parameters, because the document's face has them.
    public int would(int heels, int anger, int wear, int ridge, int wool, int hooks, int day, int hand)
            throws IllegalArgumentException {
        needBetween(heels, 0, 20);
        needBetween(anger, 0, 9);
        needBetween(wear, 0, MOST_OF_ALL);
        needBetween(ridge, 0, MOST_OF_ALL);
        needBetween(wool, 0, MOST_OF_ALL);
        needBetween(hooks, 0, 20);
        needBetween(day, 0, LAST_DAY);
        needBetween(hand, 0, MOST_HANDS - 1);
        law.setThings(heels, hooks, anger, hand);
        law.setPlace(wear, ridge, wool, day);
        return law.mends();
    }

    public boolean can(int hand, int egg, int hole) throws NoSuchElementException {
        needHand(hand);
        needEgg(egg);
        needHole(hole);
        return now.canDarn(village, hand, egg, hole);
    }

    public int ahead(int n, int what) throws IllegalArgumentException {
        needBetween(n, 0, 99);
        needBetween(what, 0, 2);
        asked.copy(now);
        for (int i = 0; i < n; i++) {
            asked.passDay(village);
        }
        if (what == 0) {
            return asked.allWear(village);
        }
        return what == 1 ? asked.allRidges(village) : asked.wholeHoles(village);
    }

    public int whole(int hole) throws NoSuchElementException {
        needHole(hole);
        asked.copy(now);
        for (int days = 0; days <= LONGEST_WHOLE; days++) {
            if (asked.wear[hole] == 0) {
                return days;
            }
            asked.passDay(village);
        }
        return NONE;
    }

    public int best(int egg) throws NoSuchElementException {
        needEgg(egg);
        giving.settle(now, village, law, egg);
        return giving.taken();
    }

    public int given(int egg, int hand) throws NoSuchElementException {
        needEgg(egg);
        needHand(hand);
        giving.settle(now, village, law, egg);
        return giving.holeOf(now, village, hand);
    }

    public int round(int hole) throws NoSuchElementException {
        needHole(hole);
        return walks.roundFrom(village, now.wornHoles(village), hole);
    }

    public int guards() {
        return walks.fewestGuards(village, now.wornHoles(village));
    }

    public int way(int hole, int other) throws NoSuchElementException {
        needHole(hole);
        needHole(other);
        return walks.roundFrom(village, 1 << other, hole);
    }

    public int fits(int what) throws IllegalArgumentException {
        needBetween(what, 0, 1);
        book.findPairs(now, village, law);
        return what == 0 ? book.pairs : book.firstPair();
    }

    public int look(int what) throws IllegalArgumentException {
        needBetween(what, 0, 1);
        book.findPairs(now, village, law);
        book.findLook(now, village, law);
        return what == 0 ? book.lookHole : book.lookLeft;
    }

    public long first(int n, int q, int part) throws IllegalArgumentException {
        needBetween(n, 1, 12);
        needBetween(q, 0, 16);
        needBetween(part, 0, 1);
        long above = q;
        long below = 16;
        for (int i = 1; i < n; i++) {
            above *= 16 - q;
            below *= 16;
        }
        // What is below is a power of two, so halving is all it takes for least terms.
        for (int i = 0; i < 4 * n && above % 2 == 0 && below > 1; i++) {
            above /= 2;
            below /= 2;
        }
        return part == 0 ? above : below;
    }

    public int ridge(int v, int w, int what) throws IllegalArgumentException {
        needBetween(v, 0, MOST_OF_ALL);
        needBetween(w, 0, MOST_OF_ALL);
        needBetween(what, 0, 2);
        int rests = 0;
        int firstRest = NONE;
        int together = 0;
        for (int pair = 0; pair < 4; pair++) {
            int one = pair / 2;
            int other = pair % 2;
            if (restsAt(v, w, one, other)) {
                if (rests == 0) {
                    firstRest = 10 * one + other;
                    together = hasBy(v, w, one, other) + hasBy(v, w, other, one);
                }
                rests++;
            }
        }
        if (what == 0) {
            return rests;
        }
        return what == 1 ? firstRest : together;
    }

    public int wool(int hole, int holes, int n) throws NoSuchElementException, IllegalArgumentException {
        needHole(hole);
        needBetween(holes, 0, (1 << village.holes) - 1);
        needBetween(n, 0, 999);
        if ((holes >> hole & 1) == 0) {
            return 0;
        }
        return Math.min(now.wear[hole], greatestBound(holes, n));
    }

    public int worst(int what) throws IllegalArgumentException {
        needBetween(what, 0, 1);
        int hole = now.mostWorn(village, (1 << village.holes) - 1);
        if (hole == NONE) {
            return NONE;
        }
        return what == 0 ? hole : now.wear[hole];
    }

    public int goes(int egg) throws NoSuchElementException {
        needEgg(egg);
        asked.copy(now);
        asked.passDay(village);
        return asked.at[egg];
    }

    public int parts() {
        return walks.sets(village);
    }

    public int ridges(int what) throws IllegalArgumentException {
        needBetween(what, 0, 1);
        return what == 0 ? now.allRidges(village) : now.mostRidged(village);
    }

    public int generation(int seed, int q, int days, int what) throws IllegalArgumentException {
        needBetween(q, 0, 16);
        needBetween(days, 1, 96);
        needBetween(what, 0, 3);
        live(seed, q, days);
        switch (what) {
            case 0:
                return asked.allWear(village);
            case 1:
                return asked.allRidges(village);
            case 2:
                return asked.hatchedEggs(village);
            default:
                return asked.wool;
        }
    }

    public int span(int seed, int many, int q, int days, int what) throws IllegalArgumentException {
        needBetween(many, 1, 20);
        needBetween(q, 0, 16);
        needBetween(days, 1, 96);
        needBetween(what, 0, 2);
        int least = MOST_HOLES * MOST_OF_ALL;
        int most = 0;
        int allHatched = 0;
        for (int i = 0; i < many; i++) {
            live(seed + i, q, days);
            int wear = asked.allWear(village);
            least = Math.min(least, wear);
            most = Math.max(most, wear);
            if (asked.hatchedEggs(village) == (1 << village.eggs) - 1) {
                allHatched++;
            }
        }
        if (what == 0) {
            return least;
        }
        return what == 1 ? most : allHatched;
    }

    public int image() {
        return images.push(now, past);
    }

    public int restore() {
        if (!images.pop(now, past)) {
            return NONE;
        }
        refusedSteps = 0;
        return images.size;
    }

    public int status(int what) {
        if (what == 0) {
            return refusedElements;
        }
        return what == 1 ? refusedArguments : NONE;
    }

    public int count(int what) {
        switch (what) {
            case 0:
                return images.size;
            case 1:
                return tape.size;
            case 2:
                return past.size;
            default:
                return NONE;
        }
    }

    private void takeText(int n, int most) {
        needBetween(n, 0, Math.min(tape.size, most));
        tape.take(n);
        faultPlace = NONE;
    }

    private int faulted() {
        faultPlace = tape.faultPlace;
        return tape.fault - FAULT_LESS;
    }

    private int refuseElement() {
        refusedElements++;
        throw new NoSuchElementException();
    }

    private int refuseArgument() {
        refusedArguments++;
        throw new IllegalArgumentException();
    }

    private void needEgg(int egg) {
        if (egg < 0 || egg >= village.eggs) {
            refuseElement();
        }
    }

    private void needHand(int hand) {
        if (hand < 0 || hand >= village.hands) {
            refuseElement();
        }
    }

    private void needHole(int hole) {
        if (hole < 0 || hole >= village.holes) {
            refuseElement();
        }
    }

    private void needBetween(int value, int least, int most) {
        if (value < least || value > most) {
            refuseArgument();
        }
    }

    private static boolean restsAt(int v, int w, int one, int other) {
        return hasBy(v, w, one, other) >= hasBy(v, w, 1 - one, other)
                && hasBy(v, w, other, one) >= hasBy(v, w, 1 - other, one);
    }

    private static int hasBy(int v, int w, int mine, int others) {
        if (mine == 0) {
            return others == 0 ? -w : w;
        }
        return others == 0 ? v / 2 : v;
    }

    private int greatestBound(int holes, int n) {
        for (int bound = MOST_OF_ALL; bound > 0; bound--) {
            int sum = 0;
            for (int p = 0; p < village.holes; p++) {
                if ((holes >> p & 1) != 0) {
                    sum += Math.min(now.wear[p], bound);
                }
            }
            if (sum <= n) {
                return bound;
            }
        }
        return 0;
    }

    private void live(int seed, int q, int days) {
        asked.copy(now);
        seeds.seed = seed;
        boolean drawn = village.hands > 0 && village.eggs > 0 && village.holes > 0;
        for (int i = 0; i < days; i++) {
            if (drawn) {
                liveOne(q);
            }
            asked.passDay(village);
        }
    }

    private void liveOne(int q) {
        int hand = seeds.draw(village.hands);
        int egg = seeds.draw(village.eggs);
        int hole = seeds.draw(village.holes);
        asked.darn(village, law, hand, egg, hole);
        if (seeds.draw(16) < q) {
            asked.letOut(village, egg, hole);
        }
    }

    /** The bytes that were fed, and the text that is read off them, from the left up to its first fault. */
    private static final class Tape {
        private final int[] bytes;
        int size;
        private int length;
        int at;
        int start;
        int value;
        int fault;
        int faultPlace;

        Tape() {
            bytes = new int[TAPE_BYTES];
            faultPlace = NONE;
        }

        void put(int number) {
            for (int shift = 24; shift >= 0 && size < TAPE_BYTES; shift -= 8) {
                bytes[size] = number >> shift & 255;
                size++;
            }
        }

        // The bytes stay where they are until the next ones are fed, so the text is read in place.
        void take(int n) {
            length = Math.min(n, size);
            size = 0;
            at = 0;
            start = 0;
            fault = 0;
            faultPlace = NONE;
        }

        boolean blame(int kind, int place) {
            fault = kind;
            faultPlace = place;
            return false;
        }

        int next() {
            while (at < length && bytes[at] == ' ') {
                at++;
            }
            return at < length ? bytes[at] : NONE;
        }

        boolean isEnded() {
            return next() == NONE;
        }

        boolean readSign(char sign) {
            if (next() != sign) {
                return blame(CANT_STAND, at);
            }
            at++;
            return true;
        }

        void readWord() {
            next();
            start = at;
            while (at < length && bytes[at] >= 'a' && bytes[at] <= 'z') {
                at++;
            }
        }

        boolean wordIs(String word) {
            if (at - start != word.length()) {
                return false;
            }
            for (int i = 0; i < word.length(); i++) {
                if (bytes[start + i] != word.charAt(i)) {
                    return false;
                }
            }
            return true;
        }

        boolean isAtDigit() {
            return at < length && bytes[at] >= '0' && bytes[at] <= '9';
        }

        boolean readNumber(int least, int most) {
            next();
            start = at;
            value = 0;
            if (!isAtDigit()) {
                return blame(CANT_STAND, at);
            }
            while (at < length && isAtDigit()) {
                // Held low, so that a long row of digits never wraps into a fit number.
                value = Math.min(10000, value * 10 + bytes[at] - '0');
                at++;
            }
            return value >= least && value <= most || blame(NONE_SUCH, start);
        }
    }

    /** What the village's text tells; no work changes it. */
    private static final class Village {
        private static final int EGG = 0;
        private static final int HAND = 1;
        private static final int HOLE = 2;
        private static final int PATH = 3;
        private static final int WOOL = 4;
        private static final int MOTHS = 5;

        int eggs;
        int hands;
        int holes;
        int paths;
        int wool;
        int moths;
        final int[] takes;
        final int[] anger;
        final int[] worn;
        final int[] pathFrom;
        final int[] pathTo;
        final int[] near;

        Village() {
            takes = new int[MOST_EGGS];
            anger = new int[MOST_HANDS];
            worn = new int[MOST_HOLES];
            near = new int[MOST_HOLES];
            pathFrom = new int[MOST_PATHS];
            pathTo = new int[MOST_PATHS];
            wool = WOOL_AT_FIRST;
        }

        private void clear() {
            eggs = 0;
            hands = 0;
            holes = 0;
            paths = 0;
            wool = WOOL_AT_FIRST;
            moths = 0;
            for (int p = 0; p < MOST_HOLES; p++) {
                near[p] = 0;
            }
        }

        boolean read(Tape text) {
            clear();
            for (int clause = 0; clause <= MOST_CLAUSES; clause++) {
                if (text.isEnded()) {
                    return true;
                }
                if (!readClause(text, clause == MOST_CLAUSES) || !text.readSign(';')) {
                    return false;
                }
            }
            return true;
        }

        private boolean readClause(Tape text, boolean tooMany) {
            text.readWord();
            int kind = kindOf(text);
            if (kind == NONE) {
                return text.blame(CANT_STAND, text.start);
            }
            if (tooMany || isFull(kind)) {
                return text.blame(TOO_MANY, text.start);
            }
            return kind == PATH ? readPath(text) : readOne(text, kind);
        }

        private static int kindOf(Tape text) {
            if (text.wordIs("egg")) {
                return EGG;
            }
            if (text.wordIs("hand")) {
                return HAND;
            }
            if (text.wordIs("hole")) {
                return HOLE;
            }
            if (text.wordIs("path")) {
                return PATH;
            }
            if (text.wordIs("wool")) {
                return WOOL;
            }
            return text.wordIs("moths") ? MOTHS : NONE;
        }

        private boolean isFull(int kind) {
            return kind == EGG && eggs >= MOST_EGGS
                    || kind == HAND && hands >= MOST_HANDS
                    || kind == HOLE && holes >= MOST_HOLES
                    || kind == PATH && paths >= MOST_PATHS;
        }

        private boolean readOne(Tape text, int kind) {
            if (!text.readNumber(leastOf(kind), mostOf(kind))) {
                return false;
            }
            switch (kind) {
                case EGG:
                    takes[eggs] = text.value;
                    eggs++;
                    break;
                case HAND:
                    anger[hands] = text.value;
                    hands++;
                    break;
                case HOLE:
                    worn[holes] = text.value;
                    holes++;
                    break;
                case WOOL:
                    wool = text.value;
                    break;
                default:
                    moths = text.value;
                    break;
            }
            return true;
        }

        private static int leastOf(int kind) {
            return kind == EGG || kind == MOTHS ? 1 : 0;
        }

        private static int mostOf(int kind) {
            switch (kind) {
                case EGG:
                    return 20;
                case HAND:
                    return 9;
                case HOLE:
                    return 60;
                default:
                    return 99;
            }
        }

        private boolean readPath(Tape text) {
            if (!text.readNumber(0, holes - 1)) {
                return false;
            }
            int from = text.value;
            if (!text.readNumber(0, holes - 1)) {
                return false;
            }
            int to = text.value;
            if (from == to || (near[from] >> to & 1) != 0) {
                return text.blame(NONE_SUCH, text.start);
            }
            pathFrom[paths] = from;
            pathTo[paths] = to;
            paths++;
            near[from] |= 1 << to;
            near[to] |= 1 << from;
            return true;
        }
    }

    /** How much a darn mends: the law's text, kept as a row of what is done one behind the other. */
    private static final class Law {
        private static final int FACTS = 1000;
        private static final int DEEDS = 2000;
        private static final int PLUS = 0;
        private static final int MINUS = 1;
        private static final int TIMES = 2;
        private static final int OVER = 3;
        private static final int LEFT = 4;
        private static final int LEAST = 5;
        private static final int MOST = 6;
        private static final int HEELS = 0;
        private static final int ANGER = 1;
        private static final int WEAR = 2;
        private static final int RIDGE = 3;
        private static final int WOOL = 4;
        private static final int HOOKS = 5;
        private static final int DAY = 6;
        private static final int HAND = 7;
        private static final int HEAP = 40;

        // Without a law the row is empty.
        private final int[] code;
        private int size;
        private final int[] facts;
        private final int[] heap;

        Law() {
            code = new int[LAW_BYTES];
            facts = new int[8];
            heap = new int[HEAP];
        }

        void forget() {
            size = 0;
        }

        boolean read(Tape text) {
            forget();
            if (!readSum(text, 0)) {
                return false;
            }
            return text.isEnded() || text.blame(CANT_STAND, text.at);
        }

        private boolean readSum(Tape text, int open) {
            if (!readProduct(text, open)) {
                return false;
            }
            for (int i = 0; i < LAW_BYTES; i++) {
                int sign = text.next();
                if (sign != '+' && sign != '-') {
                    return true;
                }
                text.at++;
                if (!readProduct(text, open)) {
                    return false;
                }
                put(DEEDS + (sign == '+' ? PLUS : MINUS));
            }
            return true;
        }

        private boolean readProduct(Tape text, int open) {
            if (!readUnit(text, open)) {
                return false;
            }
            for (int i = 0; i < LAW_BYTES; i++) {
                int sign = text.next();
                if (sign != '*' && sign != '/' && sign != '%') {
                    return true;
                }
                text.at++;
                if (!readUnit(text, open)) {
                    return false;
                }
                put(DEEDS + (sign == '*' ? TIMES : sign == '/' ? OVER : LEFT));
            }
            return true;
        }

        private boolean readUnit(Tape text, int open) {
            if (text.next() == '(') {
                return readNested(text, open);
            }
            if (text.isAtDigit()) {
                return text.readNumber(0, 999) && put(text.value);
            }
            text.readWord();
            if (text.wordIs("least")) {
                return readChoice(text, open, LEAST);
            }
            if (text.wordIs("most")) {
                return readChoice(text, open, MOST);
            }
            int fact = factOf(text);
            if (fact == NONE) {
                return text.blame(CANT_STAND, text.start);
            }
            return put(FACTS + fact);
        }

        private boolean readNested(Tape text, int open) {
            if (open >= MOST_OPEN) {
                return text.blame(TOO_MANY, text.at);
            }
            return text.readSign('(') && readSum(text, open + 1) && text.readSign(')');
        }

        private boolean readChoice(Tape text, int open, int deed) {
            if (open >= MOST_OPEN) {
                return text.blame(TOO_MANY, text.start);
            }
            return text.readSign('[') && readSum(text, open + 1)
                    && text.readSign(',') && readSum(text, open + 1)
                    && text.readSign(']') && put(DEEDS + deed);
        }

        private static int factOf(Tape text) {
            if (text.wordIs("heels")) {
                return HEELS;
            }
            if (text.wordIs("anger")) {
                return ANGER;
            }
            if (text.wordIs("wear")) {
                return WEAR;
            }
            if (text.wordIs("ridge")) {
                return RIDGE;
            }
            if (text.wordIs("wool")) {
                return WOOL;
            }
            if (text.wordIs("hooks")) {
                return HOOKS;
            }
            if (text.wordIs("day")) {
                return DAY;
            }
            return text.wordIs("hand") ? HAND : NONE;
        }

        private boolean put(int entry) {
            if (size < code.length) {
                code[size] = entry;
                size++;
            }
            return true;
        }

        void setThings(int heels, int hooks, int anger, int hand) {
            facts[HEELS] = heels;
            facts[HOOKS] = hooks;
            facts[ANGER] = anger;
            facts[HAND] = hand;
        }

        void setPlace(int wear, int ridge, int wool, int day) {
            facts[WEAR] = wear;
            facts[RIDGE] = ridge;
            facts[WOOL] = wool;
            facts[DAY] = day;
        }

        int mends() {
            heap[0] = 3 + facts[HEELS] / 2 - facts[ANGER] / 3;
            int top = 0;
            for (int i = 0; i < size; i++) {
                int entry = code[i];
                if (entry >= DEEDS) {
                    if (top >= 2) {
                        heap[top - 2] = valueOf(entry - DEEDS, heap[top - 2], heap[top - 1]);
                        top--;
                    }
                } else if (top < HEAP) {
                    heap[top] = entry < FACTS ? entry : facts[entry - FACTS & 7];
                    top++;
                }
            }
            return Math.max(0, Math.min(MOST_MEND, heap[0]));
        }

        private static int valueOf(int deed, int a, int b) {
            switch (deed) {
                case PLUS:
                    return a + b;
                case MINUS:
                    return a - b;
                case TIMES:
                    return a * b;
                case OVER:
                    return b == 0 ? 0 : a / b;
                case LEFT:
                    return b == 0 ? 0 : a % b;
                case LEAST:
                    return a < b ? a : b;
                default:
                    return a > b ? a : b;
            }
        }
    }

    /** What darns left, line by line, and whose darns they may have been. */
    private static final class Book {
        int lines;
        private final int[] holes;
        private final int[] left;
        private int listed;
        private final boolean[] fitting;
        private final int[] tally;
        int pairs;
        int lookHole;
        int lookLeft;

        Book() {
            holes = new int[MOST_LINES];
            left = new int[MOST_LINES];
            fitting = new boolean[MOST_HANDS * MOST_EGGS];
            tally = new int[MOST_OF_ALL + 1];
        }

        void forget() {
            lines = 0;
            listed = 0;
        }

        boolean read(Tape text, int villageHoles) {
            forget();
            for (int line = 0; line <= MOST_LINES; line++) {
                if (text.isEnded()) {
                    return true;
                }
                if (!readLine(text, villageHoles)) {
                    return false;
                }
            }
            return true;
        }

        private boolean readLine(Tape text, int villageHoles) {
            if (!text.readNumber(0, villageHoles - 1)) {
                return false;
            }
            int hole = text.value;
            if ((listed >> hole & 1) != 0) {
                return text.blame(NONE_SUCH, text.start);
            }
            if (lines >= MOST_LINES) {
                return text.blame(TOO_MANY, text.start);
            }
            if (!text.readNumber(0, MOST_OF_ALL)) {
                return false;
            }
            holes[lines] = hole;
            left[lines] = text.value;
            lines++;
            listed |= 1 << hole;
            return text.readSign(';');
        }

        void findPairs(State state, Village village, Law law) {
            pairs = 0;
            for (int h = 0; h < MOST_HANDS; h++) {
                for (int e = 0; e < MOST_EGGS; e++) {
                    boolean fit = h < village.hands && e < village.eggs && isFit(state, village, law, h, e);
                    fitting[h * MOST_EGGS + e] = fit;
                    if (fit) {
                        pairs++;
                    }
                }
            }
        }

        private boolean isFit(State state, Village village, Law law, int hand, int egg) {
            for (int i = 0; i < lines; i++) {
                if (state.wearLeft(village, law, hand, egg, holes[i]) != left[i]) {
                    return false;
                }
            }
            return true;
        }

        int firstPair() {
            for (int i = 0; i < fitting.length; i++) {
                if (fitting[i]) {
                    return i / MOST_EGGS * 10 + i % MOST_EGGS;
                }
            }
            return NONE;
        }

        void findLook(State state, Village village, Law law) {
            lookHole = NONE;
            lookLeft = NONE;
            for (int p = 0; p < village.holes; p++) {
                if ((listed >> p & 1) == 0) {
                    int most = mostLeftBy(state, village, law, p);
                    if (lookHole == NONE || most < lookLeft) {
                        lookHole = p;
                        lookLeft = most;
                    }
                }
            }
        }

        private int mostLeftBy(State state, Village village, Law law, int hole) {
            for (int i = 0; i < tally.length; i++) {
                tally[i] = 0;
            }
            int most = 0;
            for (int i = 0; i < fitting.length; i++) {
                if (fitting[i]) {
                    int wear = state.wearLeft(village, law, i / MOST_EGGS, i % MOST_EGGS, hole);
                    if (wear >= 0 && wear < tally.length) {
                        tally[wear]++;
                        most = Math.max(most, tally[wear]);
                    }
                }
            }
            return most;
        }
    }

    /** The steps of a work, in a row; an again and its end know each other's place. */
    private static final class Steps {
        private static final int DARN = 0;
        private static final int LET = 1;
        private static final int CALL = 2;
        private static final int UNPICK = 3;
        private static final int SHEAR = 4;
        private static final int DAY = 5;
        private static final int AGAIN = 6;
        private static final int END = 7;
        // Each of 200 agains comes to its end 30 times at most.
        private static final int MOST_TURNS = 10000;

        int done;
        int refused;
        private int size;
        private final int[] kinds;
        private final int[] firsts;
        private final int[] seconds;
        private final int[] thirds;
        private final int[] turnsLeft;

        Steps() {
            kinds = new int[WORK_BYTES];
            firsts = new int[WORK_BYTES];
            seconds = new int[WORK_BYTES];
            thirds = new int[WORK_BYTES];
            turnsLeft = new int[WORK_BYTES];
        }

        boolean read(Tape text, Village village) {
            size = 0;
            return readSteps(text, village, 0);
        }

        private boolean readSteps(Tape text, Village village, int open) {
            for (int i = 0; i <= WORK_BYTES; i++) {
                if (open == 0 ? text.isEnded() : text.next() == ']') {
                    return true;
                }
                if (!readStep(text, village, open) || !text.readSign(';')) {
                    return false;
                }
            }
            return true;
        }

        private boolean readStep(Tape text, Village village, int open) {
            text.readWord();
            int kind = kindOf(text);
            if (kind == NONE) {
                return text.blame(CANT_STAND, text.start);
            }
            if (kind == AGAIN && open >= MOST_OPEN) {
                return text.blame(TOO_MANY, text.start);
            }
            int place = put(kind);
            switch (kind) {
                case DARN:
                    return readInto(text, firsts, place, 0, village.hands - 1)
                            && readInto(text, seconds, place, 0, village.eggs - 1)
                            && readInto(text, thirds, place, 0, village.holes - 1);
                case LET:
                    return readInto(text, firsts, place, 0, village.eggs - 1)
                            && readInto(text, seconds, place, 0, village.holes - 1);
                case CALL:
                    return readInto(text, firsts, place, 0, village.eggs - 1);
                case UNPICK:
                    return readInto(text, firsts, place, 0, village.holes - 1);
                case SHEAR:
                    return readInto(text, firsts, place, 1, 40);
                case AGAIN:
                    return readAgain(text, village, open, place);
                default:
                    return true;
            }
        }

        private static int kindOf(Tape text) {
            if (text.wordIs("darn")) {
                return DARN;
            }
            if (text.wordIs("let")) {
                return LET;
            }
            if (text.wordIs("call")) {
                return CALL;
            }
            if (text.wordIs("unpick")) {
                return UNPICK;
            }
            if (text.wordIs("shear")) {
                return SHEAR;
            }
            if (text.wordIs("day")) {
                return DAY;
            }
            return text.wordIs("again") ? AGAIN : NONE;
        }

        private boolean readAgain(Tape text, Village village, int open, int place) {
            if (!readInto(text, firsts, place, 0, 30) || !text.readSign('[')
                    || !readSteps(text, village, open + 1) || !text.readSign(']')) {
                return false;
            }
            int end = put(END);
            firsts[end] = place;
            seconds[place] = end;
            return true;
        }

        private static boolean readInto(Tape text, int[] row, int place, int least, int most) {
            if (!text.readNumber(least, most)) {
                return false;
            }
            row[place] = text.value;
            return true;
        }

        // 150 bytes hold far fewer steps than the row has places; the last one is there for safety.
        private int put(int kind) {
            int place = Math.min(size, WORK_BYTES - 1);
            kinds[place] = kind;
            size = place + 1;
            return place;
        }

        void run(State state, Village village, Law law) {
            done = 0;
            refused = 0;
            int begun = 0;
            int place = 0;
            for (int turn = 0; turn < MOST_TURNS && place >= 0 && place < size; turn++) {
                if (kinds[place] == END) {
                    place = behindEnd(place);
                } else if (begun >= MOST_STEPS) {
                    return;
                } else if (kinds[place] == AGAIN) {
                    begun++;
                    place = behindAgain(place);
                } else {
                    begun++;
                    tally(runOne(state, village, law, place));
                    place++;
                }
            }
        }

        private void tally(boolean wasDone) {
            if (wasDone) {
                done++;
            } else {
                refused++;
            }
        }

        private int behindAgain(int place) {
            turnsLeft[place] = firsts[place];
            return firsts[place] > 0 ? place + 1 : seconds[place] + 1;
        }

        private int behindEnd(int end) {
            int again = firsts[end];
            if (again < 0 || again >= end) {
                return end + 1;
            }
            turnsLeft[again]--;
            return turnsLeft[again] > 0 ? again + 1 : end + 1;
        }

        private boolean runOne(State state, Village village, Law law, int place) {
            int a = firsts[place];
            switch (kinds[place]) {
                case DARN:
                    return state.darn(village, law, a, seconds[place], thirds[place]);
                case LET:
                    return state.letOut(village, a, seconds[place]);
                case CALL:
                    return state.callIn(a);
                case UNPICK:
                    return state.unpick(a);
                case SHEAR:
                    return state.shear(a);
                default:
                    return state.endDay(village);
            }
        }
    }

    /** All that work changes. */
    private static final class State {
        final int[] heels;
        final int[] hooks;
        final int[] at;
        final int[] darns;
        final int[] wear;
        final int[] ridge;
        int darned;
        int day;
        int wool;

        State() {
            heels = new int[MOST_EGGS];
            hooks = new int[MOST_EGGS];
            at = new int[MOST_EGGS];
            darns = new int[MOST_HANDS];
            wear = new int[MOST_HOLES];
            ridge = new int[MOST_HOLES];
            wool = WOOL_AT_FIRST;
            for (int e = 0; e < MOST_EGGS; e++) {
                at[e] = NONE;
            }
        }

        void start(Village village) {
            for (int e = 0; e < MOST_EGGS; e++) {
                heels[e] = 0;
                hooks[e] = 0;
                at[e] = NONE;
            }
            for (int h = 0; h < MOST_HANDS; h++) {
                darns[h] = 0;
            }
            for (int p = 0; p < MOST_HOLES; p++) {
                wear[p] = p < village.holes ? village.worn[p] : 0;
                ridge[p] = 0;
            }
            darned = 0;
            day = 0;
            wool = village.wool;
        }

        void copy(State other) {
            System.arraycopy(other.heels, 0, heels, 0, MOST_EGGS);
            System.arraycopy(other.hooks, 0, hooks, 0, MOST_EGGS);
            System.arraycopy(other.at, 0, at, 0, MOST_EGGS);
            System.arraycopy(other.darns, 0, darns, 0, MOST_HANDS);
            System.arraycopy(other.wear, 0, wear, 0, MOST_HOLES);
            System.arraycopy(other.ridge, 0, ridge, 0, MOST_HOLES);
            darned = other.darned;
            day = other.day;
            wool = other.wool;
        }

        boolean isHatched(Village village, int egg) {
            return heels[egg] >= village.takes[egg];
        }

        boolean isHooked(int egg) {
            return 2 * hooks[egg] > heels[egg];
        }

        boolean darnedToday(int hand) {
            return (darned >> hand & 1) != 0;
        }

        int mendBy(Village village, Law law, int hand, int egg, int hole) {
            law.setThings(heels[egg], hooks[egg], village.anger[hand], hand);
            law.setPlace(wear[hole], ridge[hole], wool, day);
            return law.mends();
        }

        int wearLeft(Village village, Law law, int hand, int egg, int hole) {
            return Math.max(0, wear[hole] - mendBy(village, law, hand, egg, hole));
        }

        boolean canDarn(Village village, int hand, int egg, int hole) {
            return wool > 0 && !isHatched(village, egg) && !darnedToday(hand) && wear[hole] > 0;
        }

        boolean darn(Village village, Law law, int hand, int egg, int hole) {
            if (!canDarn(village, hand, egg, hole)) {
                return false;
            }
            int mended = mendBy(village, law, hand, egg, hole);
            int above = Math.max(0, mended - wear[hole]);
            wear[hole] = Math.max(0, wear[hole] - mended);
            ridge[hole] = Math.min(MOST_OF_ALL, ridge[hole] + above);
            wool--;
            heels[egg]++;
            if (village.anger[hand] >= ANGRY) {
                hooks[egg]++;
            }
            darns[hand]++;
            darned |= 1 << hand;
            return true;
        }

        boolean letOut(Village village, int egg, int hole) {
            if (!isHatched(village, egg) || at[egg] == hole) {
                return false;
            }
            at[egg] = hole;
            return true;
        }

        boolean callIn(int egg) {
            if (at[egg] == NONE) {
                return false;
            }
            at[egg] = NONE;
            return true;
        }

        boolean unpick(int hole) {
            int unpicked = ridge[hole];
            if (unpicked == 0) {
                return false;
            }
            wear[hole] = Math.min(MOST_OF_ALL, wear[hole] + unpicked);
            ridge[hole] = 0;
            wool = Math.min(MOST_OF_ALL, wool + unpicked / 2);
            return true;
        }

        boolean shear(int more) {
            if (wool >= MOST_OF_ALL) {
                return false;
            }
            wool = Math.min(MOST_OF_ALL, wool + more);
            return true;
        }

        boolean endDay(Village village) {
            if (day >= LAST_DAY) {
                return false;
            }
            passDay(village);
            return true;
        }

        void passDay(Village village) {
            for (int e = 0; e < village.eggs; e++) {
                if (at[e] >= 0 && at[e] < village.holes) {
                    doItsPart(village, e, at[e]);
                }
            }
            day++;
            if (village.moths > 0 && day % village.moths == 0) {
                for (int p = 0; p < village.holes; p++) {
                    wear[p] = Math.min(MOST_OF_ALL, wear[p] + 1);
                }
            }
            darned = 0;
        }

        private void doItsPart(Village village, int egg, int hole) {
            if (isHooked(egg)) {
                wear[hole] = Math.min(MOST_OF_ALL, wear[hole] + 2);
            } else if (wear[hole] > 0) {
                wear[hole]--;
            } else {
                ridge[hole] = Math.min(MOST_OF_ALL, ridge[hole] + 1);
            }
            if (wear[hole] == 0) {
                int other = mostWorn(village, village.near[hole]);
                at[egg] = other == NONE ? hole : other;
            }
        }

        int mostWorn(Village village, int among) {
            int hole = NONE;
            int most = 0;
            for (int p = 0; p < village.holes; p++) {
                if ((among >> p & 1) != 0 && wear[p] > most) {
                    hole = p;
                    most = wear[p];
                }
            }
            return hole;
        }

        int mostRidged(Village village) {
            int hole = NONE;
            int most = 0;
            for (int p = 0; p < village.holes; p++) {
                if (ridge[p] > most) {
                    hole = p;
                    most = ridge[p];
                }
            }
            return hole;
        }

        int allWear(Village village) {
            int sum = 0;
            for (int p = 0; p < village.holes; p++) {
                sum += wear[p];
            }
            return sum;
        }

        int allRidges(Village village) {
            int sum = 0;
            for (int p = 0; p < village.holes; p++) {
                sum += ridge[p];
            }
            return sum;
        }

        int wornHoles(Village village) {
            int bits = 0;
            for (int p = 0; p < village.holes; p++) {
                if (wear[p] > 0) {
                    bits |= 1 << p;
                }
            }
            return bits;
        }

        int wholeHoles(Village village) {
            return (1 << village.holes) - 1 & ~wornHoles(village);
        }

        int hatchedEggs(Village village) {
            int bits = 0;
            for (int e = 0; e < village.eggs; e++) {
                if (isHatched(village, e)) {
                    bits |= 1 << e;
                }
            }
            return bits;
        }

        int eggsOut(Village village) {
            int bits = 0;
            for (int e = 0; e < village.eggs; e++) {
                if (at[e] != NONE) {
                    bits |= 1 << e;
                }
            }
            return bits;
        }

        int eggsOutAt(Village village, int hole) {
            int bits = 0;
            for (int e = 0; e < village.eggs; e++) {
                if (at[e] == hole) {
                    bits |= 1 << e;
                }
            }
            return bits;
        }
    }

    /** What a generation draws from. */
    private static final class Seed {
        int seed;

        int draw(int by) {
            seed = seed * 1103515245 + 12345;
            return by > 0 ? (seed >> 16 & 32767) % by : 0;
        }
    }

    /** How all was ahead of each work that can be undone, the latest last. */
    private static final class Past {
        private final State[] states;
        int size;

        Past() {
            states = new State[MOST_WORKS];
            for (int i = 0; i < MOST_WORKS; i++) {
                states[i] = new State();
            }
        }

        void forget() {
            size = 0;
        }

        boolean isFull() {
            return size >= MOST_WORKS;
        }

        void push(State state) {
            if (size < MOST_WORKS) {
                states[size].copy(state);
                size++;
            }
        }

        boolean pop(State into) {
            if (size <= 0) {
                return false;
            }
            size--;
            into.copy(states[size]);
            return true;
        }

        void copy(Past other) {
            for (int i = 0; i < other.size; i++) {
                states[i].copy(other.states[i]);
            }
            size = other.size;
        }
    }

    /** The images, the latest last. */
    private static final class Images {
        private final State[] states;
        private final Past[] pasts;
        int size;

        Images() {
            states = new State[MOST_IMAGES];
            pasts = new Past[MOST_IMAGES];
            for (int i = 0; i < MOST_IMAGES; i++) {
                states[i] = new State();
                pasts[i] = new Past();
            }
        }

        void forget() {
            size = 0;
        }

        int push(State state, Past past) {
            if (size >= MOST_IMAGES) {
                return NONE;
            }
            states[size].copy(state);
            pasts[size].copy(past);
            size++;
            return size;
        }

        boolean pop(State state, Past past) {
            if (size <= 0) {
                return false;
            }
            size--;
            state.copy(states[size]);
            past.copy(pasts[size]);
            return true;
        }
    }

    /** Which hand for which hole: for each hand and each set of holes given ahead of it, the most yet to be taken off. */
    private static final class Giving {
        private final int[] gains;
        private final int[] most;

        Giving() {
            gains = new int[MOST_HANDS * MOST_HOLES];
            most = new int[(MOST_HANDS + 1) * HOLE_SETS];
        }

        void settle(State state, Village village, Law law, int egg) {
            for (int h = 0; h < village.hands; h++) {
                for (int p = 0; p < village.holes; p++) {
                    gains[h * MOST_HOLES + p] = Math.min(state.wear[p], state.mendBy(village, law, h, egg, p));
                }
            }
            int sets = 1 << village.holes;
            for (int set = 0; set < sets; set++) {
                most[village.hands * HOLE_SETS + set] = 0;
            }
            for (int h = village.hands - 1; h >= 0; h--) {
                for (int set = 0; set < sets; set++) {
                    // No more holes than hands can be given ahead of this hand.
                    if (Integer.bitCount(set) <= h) {
                        most[h * HOLE_SETS + set] = mostFrom(state, village, h, set);
                    }
                }
            }
        }

        private int mostFrom(State state, Village village, int hand, int set) {
            int best = most[(hand + 1) * HOLE_SETS + set];
            if (state.darnedToday(hand)) {
                return best;
            }
            for (int p = 0; p < village.holes; p++) {
                if ((set >> p & 1) == 0) {
                    best = Math.max(best, takenBy(hand, p, set));
                }
            }
            return best;
        }

        private int takenBy(int hand, int hole, int set) {
            return gains[hand * MOST_HOLES + hole] + most[(hand + 1) * HOLE_SETS + (set | 1 << hole)];
        }

        int taken() {
            return most[0];
        }

        int holeOf(State state, Village village, int hand) {
            int set = 0;
            int hole = NONE;
            for (int h = 0; h <= hand && h < village.hands; h++) {
                hole = firstHole(state, village, h, set);
                if (hole != NONE) {
                    set |= 1 << hole;
                }
            }
            return hole;
        }

        private int firstHole(State state, Village village, int hand, int set) {
            if (state.darnedToday(hand)) {
                return NONE;
            }
            for (int p = 0; p < village.holes; p++) {
                if ((set >> p & 1) == 0 && takenBy(hand, p, set) == most[hand * HOLE_SETS + set]) {
                    return p;
                }
            }
            return NONE;
        }
    }

    /** Ways along paths. */
    private static final class Walks {
        private final int[] far;
        private final int[] queue;
        private int queued;

        Walks() {
            far = new int[MOST_HOLES * HOLE_SETS];
            queue = new int[MOST_HOLES * HOLE_SETS];
        }

        int roundFrom(Village village, int targets, int hole) {
            int states = village.holes * HOLE_SETS;
            for (int i = 0; i < states; i++) {
                far[i] = NONE;
            }
            queued = 0;
            reach(hole, 1 << hole & targets, 0);
            for (int i = 0; i < queued && i < queue.length; i++) {
                int at = queue[i] / HOLE_SETS;
                int seen = queue[i] % HOLE_SETS;
                if (seen == targets) {
                    return far[queue[i]];
                }
                for (int p = 0; p < village.holes; p++) {
                    if ((village.near[at] >> p & 1) != 0) {
                        reach(p, seen | 1 << p & targets, far[queue[i]] + 1);
                    }
                }
            }
            return NONE;
        }

        private void reach(int hole, int seen, int steps) {
            int state = hole * HOLE_SETS + seen;
            if (state >= 0 && state < far.length && far[state] == NONE && queued < queue.length) {
                far[state] = steps;
                queue[queued] = state;
                queued++;
            }
        }

        int fewestGuards(Village village, int worn) {
            int best = 0;
            int fewest = MOST_HOLES + 1;
            int sets = 1 << village.holes;
            for (int set = 0; set < sets; set++) {
                int many = Integer.bitCount(set);
                if (many < fewest && (worn & ~guardedBy(village, set)) == 0) {
                    best = set;
                    fewest = many;
                }
            }
            return best;
        }

        private static int guardedBy(Village village, int set) {
            int guarded = set;
            for (int p = 0; p < village.holes; p++) {
                if ((set >> p & 1) != 0) {
                    guarded |= village.near[p];
                }
            }
            return guarded;
        }

        int sets(Village village) {
            int found = 0;
            int many = 0;
            for (int p = 0; p < village.holes; p++) {
                if ((found >> p & 1) == 0) {
                    many++;
                    found |= hangingWith(village, p);
                }
            }
            return many;
        }

        private static int hangingWith(Village village, int hole) {
            int set = 1 << hole;
            for (int i = 0; i < village.holes; i++) {
                set = guardedBy(village, set);
            }
            return set;
        }
    }
}

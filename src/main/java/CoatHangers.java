/**
 * A state where people are hung up at night. The face below stands in the order of the document;
 * what the words in capitals mean stands there too.
 *
 * All rows are made in constructors and used again, so that no call makes an object.
 */
public final class CoatHangers {
    public static final int NONE = -1;

    /** What answers say for the FLOOR, nobody, none: the document's -2. */
    private static final int NOWHERE = -2;

    private static final int MOST_HANGERS = 7;
    private static final int MOST_PEOPLE = 6;
    private static final int NAILS = 5;
    private static final int MOST_NIGHTS = 60;
    private static final int FARTHEST_NIGHT = 240;
    private static final int MOST_SEEDS = 20;
    private static final int MOST_CROOKED = 999;
    private static final int MOST_BENT = 99;
    private static final int WIDEST = 99;
    private static final int SLOTS = 3;

    private static final int CROOKS = 0;
    private static final int BENDS = 1;
    private static final int SLIPS = 2;
    private static final int COSTS = 3;

    private final Tape tape;
    private final Text text;
    private final Reader reader;
    private final State state;
    private final State dream;
    private final Reckoner reckoner;
    private final Night night;
    private final Plan plan;
    private final Told told;
    private final Past past;
    private final State[] slots;
    private int heldSlots;

    public CoatHangers() {
        tape = new Tape();
        text = new Text();
        reader = new Reader(tape);
        state = new State(text);
        dream = new State(text);
        reckoner = new Reckoner(text);
        night = new Night(text, reckoner);
        plan = new Plan(text, reckoner);
        told = new Told(text, night);
        past = new Past(text);
        slots = new State[SLOTS];
        for (int slot = 0; slot < SLOTS; slot++) {
            slots[slot] = new State(text);
        }
        heldSlots = 0;
    }

    // The tape and the text.

    public int feed(int a, int b, int c, int d, int e) {
        if (!tape.hasRoomFor(20)) {
            return NONE;
        }
        tape.addFour(a);
        tape.addFour(b);
        tape.addFour(c);
        tape.addFour(d);
        tape.addFour(e);
        return tape.size;
    }

    public int back(int n) {
        if (n < 0 || n > tape.size) {
            return NONE;
        }
        tape.size -= n;
        return tape.size;
    }

    public int read() {
        int fault = reader.readAll();
        tape.size = 0;
        if (fault == 0) {
            text.become(reader.draft);
            state.begin();
            past.drop();
            told.size = 0;
            heldSlots = 0;
        }
        return fault;
    }

    public int place() {
        return reader.faultPlace;
    }

    // What is.

    public int hanger(int hanger, int what) {
        if (!isHanger(hanger)) {
            return NONE;
        }
        switch (what) {
            case 0: return text.nail[hanger];
            case 1: return text.breadth[hanger];
            case 2: return state.bent[hanger];
            case 3: return state.whoIsOn(hanger);
            default: return NONE;
        }
    }

    public int person(int person, int what) {
        if (!isPerson(person)) {
            return NONE;
        }
        switch (what) {
            case 0: return state.wide[person];
            case 1: return text.rank[person];
            case 2: return state.on[person];
            case 3: return state.self[person];
            case 4: return state.crooked[person];
            case 5: return state.othersBeside(person);
            default: return NONE;
        }
    }

    public int tells(int person, int what) {
        if (!isPerson(person) || what < CROOKS || what > COSTS) {
            return NONE;
        }
        if (!state.isHung(person)) {
            return NOWHERE;
        }
        reckoner.lookAtHung(state, person);
        return reckoner.lawTells(what);
    }

    // Things done by hand, and nights.

    public boolean hang(int person, int hanger) {
        if (!isPerson(person) || !isHanger(hanger)) {
            return false;
        }
        if (state.isHung(person) || state.isTaken(hanger)) {
            return false;
        }
        past.keep(state);
        state.on[person] = hanger;
        return true;
    }

    public boolean take(int person) {
        if (!isPerson(person) || !state.isHung(person)) {
            return false;
        }
        past.keep(state);
        state.on[person] = NOWHERE;
        return true;
    }

    public boolean change(int person, int other) {
        if (!isPerson(person) || !isPerson(other) || person == other) {
            return false;
        }
        if (!state.isHung(person) || !state.isHung(other)) {
            return false;
        }
        past.keep(state);
        state.exchange(person, other);
        return true;
    }

    public boolean straighten(int hanger) {
        if (!isHanger(hanger) || state.isTaken(hanger) || state.bent[hanger] == 0) {
            return false;
        }
        past.keep(state);
        state.bent[hanger] = 0;
        return true;
    }

    public int nights(int n) {
        if (!isFewNights(n)) {
            return NONE;
        }
        if (n > 0) {
            past.keep(state);
            night.goByWithAll(state, n, text.seed);
        }
        return state.night;
    }

    public boolean undo() {
        return past.giveBack(state);
    }

    // What would be.

    public int hanging(int i) {
        return planned(i, false);
    }

    public int apart(int i) {
        return planned(i, true);
    }

    private int planned(int i, boolean byNails) {
        if (i != NONE && !isPerson(i)) {
            return NONE;
        }
        plan.lookAtCosts(state);
        int worth = plan.findBest(byNails, NOWHERE);
        return i == NONE ? plan.costOf(worth) : plan.hangerFor(i, NOWHERE);
    }

    public int ways(int v) {
        if (v < 0 || v > 99) {
            return NONE;
        }
        plan.lookAtCosts(state);
        return plan.waysWithin(v);
    }

    public int sets() {
        int rings = 0;
        int seen = 0;
        for (int p = 0; p < text.people; p++) {
            if ((seen & 1 << p) == 0) {
                rings++;
                seen |= ringFrom(p);
            }
        }
        return rings;
    }

    private int ringFrom(int first) {
        int ring = 0;
        int p = first;
        for (int step = 0; step < text.people; step++) {
            ring |= 1 << p;
            p = state.self[p];
        }
        return ring;
    }

    public int changes() {
        return text.people - sets();
    }

    public int themselves() {
        int all = (1 << text.people) - 1;
        dream.become(state);
        for (int n = 0; n <= FARTHEST_NIGHT; n++) {
            if (dream.bitsOfOwnSelves() == all) {
                return n;
            }
            night.wakeAll(dream);
        }
        return NOWHERE;
    }

    public int crossed(int what) {
        int pairs = 0;
        int first = NOWHERE;
        for (int p = 0; p < text.people; p++) {
            int other = state.self[p];
            if (p < other && state.self[other] == p) {
                pairs++;
                first = first == NOWHERE ? 10 * p + other : first;
            }
        }
        switch (what) {
            case 0: return pairs;
            case 1: return first;
            default: return NONE;
        }
    }

    public int fit(int person, int what) {
        if (!isPerson(person) || !isZeroOrOne(what)) {
            return NONE;
        }
        int which = NOWHERE;
        int least = NOWHERE;
        for (int h = 0; h < text.hangers; h++) {
            int cost = reckoner.costAlone(state, person, h);
            if (which == NOWHERE || cost < least) {
                which = h;
                least = cost;
            }
        }
        return what == 0 ? which : least;
    }

    public int missed(int what) {
        if (!isZeroOrOne(what)) {
            return NONE;
        }
        plan.lookAtCosts(state);
        int which = NOWHERE;
        int most = 0;
        for (int h = 0; h < text.hangers; h++) {
            int worth = plan.findBest(false, h);
            if (which == NOWHERE || worth > most) {
                which = h;
                most = worth;
            }
        }
        return what == 0 || which == NOWHERE ? which : plan.costOf(most);
    }

    public int crowded(int what) {
        int which = 0;
        int most = 0;
        for (int nail = 0; nail < NAILS; nail++) {
            int many = state.peopleOnNail(nail);
            if (many > most) {
                which = nail;
                most = many;
            }
        }
        switch (what) {
            case 0: return which;
            case 1: return most;
            default: return NONE;
        }
    }

    public int straight() {
        int which = NOWHERE;
        int least = 0;
        for (int p = 0; p < text.people; p++) {
            if (state.isHung(p) && (which == NOWHERE || state.crooked[p] < least)) {
                which = p;
                least = state.crooked[p];
            }
        }
        return which;
    }

    public int bill(int n) {
        if (!isFewNights(n)) {
            return NONE;
        }
        int sum = 0;
        dream.become(state);
        for (int i = 0; i < n; i++) {
            sum += reckoner.costOfAll(dream);
            night.goByQuietly(dream);
        }
        return sum;
    }

    public int swap(int what) {
        if (!isZeroOrOne(what)) {
            return NONE;
        }
        int before = reckoner.costOfAll(state);
        int which = NOWHERE;
        int most = 0;
        for (int p = 0; p < text.people; p++) {
            for (int other = p + 1; other < text.people; other++) {
                int less = before - costIfExchanged(p, other, before);
                if (less > most) {
                    which = 10 * p + other;
                    most = less;
                }
            }
        }
        return what == 0 || which == NOWHERE ? which : most;
    }

    private int costIfExchanged(int p, int other, int before) {
        if (!state.isHung(p) || !state.isHung(other)) {
            return before;
        }
        dream.become(state);
        dream.exchange(p, other);
        return reckoner.costOfAll(dream);
    }

    public int round() {
        dream.become(state);
        for (int n = 1; n <= FARTHEST_NIGHT; n++) {
            night.wakeAll(dream);
            if (dream.hasSelvesOf(state)) {
                return n;
            }
        }
        return NOWHERE;
    }

    public int upright(int n, int v) {
        if (!isFewNights(n) || v < 1 || v > MOST_CROOKED) {
            return NONE;
        }
        dream.become(state);
        for (int i = 0; i < n; i++) {
            night.goByQuietly(dream);
        }
        int bits = 0;
        for (int p = 0; p < text.people; p++) {
            bits |= dream.crooked[p] < v ? 1 << p : 0;
        }
        return bits;
    }

    public int holder(int self) {
        for (int p = 0; p < text.people; p++) {
            if (state.self[p] == self) {
                return p;
            }
        }
        return NONE;
    }

    public int free(int what) {
        int which = NOWHERE;
        int widest = NOWHERE;
        for (int h = 0; h < text.hangers; h++) {
            if (!state.isTaken(h) && text.breadth[h] > widest) {
                which = h;
                widest = text.breadth[h];
            }
        }
        switch (what) {
            case 0: return which;
            case 1: return widest;
            default: return NONE;
        }
    }

    public int day(int person) {
        if (!isPerson(person)) {
            return NONE;
        }
        dream.become(state);
        for (int n = 0; n <= FARTHEST_NIGHT; n++) {
            if (dream.self[person] == person) {
                return n;
            }
            night.wakeAll(dream);
        }
        return NOWHERE;
    }

    public int then(int person, int n, int what) {
        if (!isPerson(person) || !isFewNights(n) || what < 0 || what > 2) {
            return NONE;
        }
        dream.become(state);
        night.goByWithAll(dream, n, text.seed);
        switch (what) {
            case 0: return dream.self[person];
            case 1: return dream.crooked[person];
            default: return dream.on[person];
        }
    }

    public int bentIn(int hanger, int n) {
        if (!isHanger(hanger) || !isFewNights(n)) {
            return NONE;
        }
        dream.become(state);
        night.goByWithAll(dream, n, text.seed);
        return dream.bent[hanger];
    }

    public int year(int person, int n, int s) {
        if (!isPerson(person) || !isFewNights(n) || s < 1 || s > MOST_SEEDS) {
            return NONE;
        }
        int times = 0;
        for (int i = 0; i < s; i++) {
            dream.become(state);
            times += night.staysHung(dream, n, text.seed + i, person) ? 1 : 0;
        }
        return times;
    }

    // What is told of two who changed.

    public int tell(int person, int self, boolean so) {
        if (!isPerson(person) || !isPerson(self) || !told.hasRoom()) {
            return NONE;
        }
        return told.add(person, self, so);
    }

    public int forget() {
        int were = told.size;
        told.size = 0;
        return were;
    }

    public int two(int k, int i) {
        if (!isKnown(k) || i < NONE) {
            return NONE;
        }
        return i == NONE ? told.pairsLeft(state, k) : told.pairLeft(state, k, i);
    }

    public int ask(int k) {
        return isKnown(k) ? told.whomToAsk(state, k) : NONE;
    }

    // Held ones, and counts.

    public boolean hold(int slot) {
        if (!isSlot(slot)) {
            return false;
        }
        slots[slot].become(state);
        heldSlots |= 1 << slot;
        return true;
    }

    public boolean restore(int slot) {
        if (!isSlot(slot) || (heldSlots & 1 << slot) == 0) {
            return false;
        }
        state.become(slots[slot]);
        past.drop();
        return true;
    }

    public int count(int what) {
        switch (what) {
            case 0: return text.hangers;
            case 1: return text.people;
            case 2: return state.night;
            case 3: return state.bitsOfHung();
            case 4: return state.bitsOfTaken();
            case 5: return state.bitsOfOwnSelves();
            case 6: return sumOfFirst(state.crooked, text.people);
            case 7: return sumOfFirst(state.bent, text.hangers);
            case 8: return tape.size;
            case 9: return past.size;
            case 10: return told.size;
            case 11: return Integer.bitCount(heldSlots);
            case 12: return night.hasMoth(text.seed, state.night) ? 1 : 0;
            case 13: return reckoner.costOfAll(state);
            case 14: return state.bitsOfSharedNails();
            default: return NONE;
        }
    }

    private boolean isHanger(int hanger) {
        return hanger >= 0 && hanger < text.hangers;
    }

    private boolean isPerson(int person) {
        return person >= 0 && person < text.people;
    }

    private boolean isKnown(int k) {
        return k >= 0 && k <= told.size;
    }

    private static boolean isFewNights(int n) {
        return n >= 0 && n <= MOST_NIGHTS;
    }

    private static boolean isZeroOrOne(int what) {
        return what == 0 || what == 1;
    }

    private static boolean isSlot(int slot) {
        return slot >= 0 && slot < SLOTS;
    }

    private static int sumOfFirst(int[] row, int many) {
        int sum = 0;
        for (int i = 0; i < many && i < row.length; i++) {
            sum += row[i];
        }
        return sum;
    }

    /** The bytes that have been fed and not yet read, and the TOKENS that they make. */
    private static final class Tape {
        private static final int MOST_BYTES = 2000;
        static final int MOST_TOKENS = 400;

        /** Kinds of TOKENS; a sign's kind is its byte, a word's is WORD and its number. */
        static final int END = 1;
        static final int NO_TOKEN = 2;
        static final int NAME = 3;
        static final int INT = 4;
        static final int WORD = 256;

        static final int HANGER = WORD;
        static final int PERSON = WORD + 1;
        static final int HANGS = WORD + 2;
        /** The words of LAWS and VARS stand in the order of their numbers. */
        static final int FIRST_LAW = WORD + 3;
        static final int LAST_LAW = WORD + 6;
        static final int MOTH = WORD + 7;
        static final int SEED = WORD + 8;
        static final int IF = WORD + 9;
        static final int THEN = WORD + 10;
        static final int ELSE = WORD + 11;
        static final int FIRST_VAR = WORD + 12;
        static final int LAST_VAR = WORD + 20;

        private static final int WORDS = 21;
        private static final String ALL_WORDS =
            "hanger person hangs crooks bends slips costs moth seed if then else apart bent wide rank night crooked beside which nail";
        private static final String SIGNS = ";=+-*/<()";
        private static final int MOST_LETTERS = 8;
        private static final int MOST_DIGITS = 4;

        private final byte[] bytes = new byte[MOST_BYTES];
        int size = 0;

        private final long[] words = new long[WORDS];
        private int next;

        /** One TOKEN too many and the END behind it have room: reading never goes farther. */
        final int[] kinds = new int[MOST_TOKENS + 2];
        final int[] places = new int[MOST_TOKENS + 2];
        /** An INT's number; a NAME's letters as one number, different ones for different names. */
        final long[] values = new long[MOST_TOKENS + 2];

        Tape() {
            int word = 0;
            for (int i = 0; i < ALL_WORDS.length() && word < WORDS; i++) {
                char letter = ALL_WORDS.charAt(i);
                if (letter == ' ') {
                    word++;
                } else {
                    words[word] = withLetter(words[word], letter);
                }
            }
        }

        boolean hasRoomFor(int many) {
            return size + many <= MOST_BYTES;
        }

        void addFour(int four) {
            for (int shift = 24; shift >= 0; shift -= 8) {
                if (size < MOST_BYTES) {
                    bytes[size] = (byte) (four >>> shift);
                    size++;
                }
            }
        }

        /** The byte as a number 0 .. 255; NONE behind the end. */
        private int byteAt(int place) {
            return place >= 0 && place < size ? bytes[place] & 255 : NONE;
        }

        void split() {
            next = 0;
            boolean goesOn = true;
            for (int i = 0; i < MOST_TOKENS + 2 && goesOn; i++) {
                skipBlanks();
                places[i] = next;
                values[i] = 0;
                kinds[i] = splitOne(i);
                goesOn = kinds[i] != END && kinds[i] != NO_TOKEN;
            }
        }

        private void skipBlanks() {
            while (next < size && isBlank(byteAt(next))) {
                next++;
            }
        }

        private int splitOne(int i) {
            int first = byteAt(next);
            if (first == NONE) {
                return END;
            }
            if (isLetter(first)) {
                return splitWord(i);
            }
            if (isDigit(first)) {
                return splitInt(i);
            }
            next++;
            return SIGNS.indexOf((char) first) >= 0 ? first : NO_TOKEN;
        }

        private int splitWord(int i) {
            long name = 0;
            while (next < size && isLetter(byteAt(next))) {
                name = withLetter(name, byteAt(next));
                next++;
            }
            values[i] = name;
            return next - places[i] > MOST_LETTERS ? NO_TOKEN : kindOf(name);
        }

        private int kindOf(long name) {
            for (int word = 0; word < WORDS; word++) {
                if (words[word] == name) {
                    return WORD + word;
                }
            }
            return NAME;
        }

        private int splitInt(int i) {
            long number = 0;
            while (next < size && isDigit(byteAt(next))) {
                number = number * 10 + (byteAt(next) - '0');
                next++;
            }
            values[i] = number;
            return next - places[i] > MOST_DIGITS ? NO_TOKEN : INT;
        }

        private static long withLetter(long name, int letter) {
            return name * 27 + (letter - 'a' + 1);
        }

        private static boolean isBlank(int sign) {
            return sign == 9 || sign == 10 || sign == 13 || sign == 32;
        }

        private static boolean isLetter(int sign) {
            return sign >= 'a' && sign <= 'z';
        }

        private static boolean isDigit(int sign) {
            return sign >= '0' && sign <= '9';
        }
    }

    /**
     * Reads a tape into a draft of a text. Faults 1 and 2 end the reading; the first of 3, 4 and 5 is
     * only kept, as a later 1 or 2 goes before it. Methods that answer a boolean tell whether the
     * reading goes on.
     */
    private static final class Reader {
        private static final int SYNTAX = 1;
        private static final int ROOM = 2;
        private static final int TWICE = 3;
        private static final int NO_SUCH_NAME = 4;
        private static final int WRONG = 5;

        private static final int MOST_HANGS = 6;
        private static final int MOST_IFS = 4;
        private static final int MOST_DEEP = 6;
        private static final int HIGHEST_RANK = 9;
        private static final int HIGHEST_MOTH = 100;
        private static final int HIGHEST_SEED = 9999;

        private final Tape tape;
        /** The TOKEN that is looked at; its kind and value stand in the next two. */
        private int at;
        private int kind;
        private long value;
        /** The latest INT that readNumber went over. */
        private int number;

        final Text draft = new Text();
        private final long[] hangerNames = new long[MOST_HANGERS];
        private final long[] personNames = new long[MOST_PEOPLE];
        private int hangs;
        private final Waiters waiters = new Waiters();

        private int senseFault;
        private int sensePlace;
        private int fault;
        int faultPlace = NONE;

        Reader(Tape tape) {
            this.tape = tape;
        }

        int readAll() {
            fault = 0;
            faultPlace = NONE;
            senseFault = 0;
            hangs = 0;
            draft.clear();
            tape.split();
            lookAt(0);
            boolean goesOn = true;
            for (int tell = 0; tell <= Tape.MOST_TOKENS && goesOn && kind != Tape.END; tell++) {
                boolean isLaw = kind >= Tape.FIRST_LAW && kind <= Tape.LAST_LAW;
                goesOn = isLaw ? readLaw(draft.law(kind - Tape.FIRST_LAW)) : readTell();
            }
            if (fault == 0 && senseFault != 0) {
                fault = senseFault;
                faultPlace = sensePlace;
            }
            return fault;
        }

        private boolean readTell() {
            switch (kind) {
                case Tape.HANGER: return readHanger();
                case Tape.PERSON: return readPerson();
                case Tape.HANGS: return readHangs();
                case Tape.MOTH: return readMoth();
                case Tape.SEED: return readSeed();
                default: return fails(SYNTAX);
            }
        }

        private boolean readHanger() {
            int h = draft.hangers;
            if (h >= MOST_HANGERS) {
                return fails(ROOM);
            }
            if (!goOn() || !readNewName(hangerNames, h) || !readNumber(NAILS - 1)) {
                return false;
            }
            draft.nail[h] = number;
            if (!readNumber(WIDEST)) {
                return false;
            }
            draft.breadth[h] = number;
            draft.hangers++;
            return pass(';');
        }

        private boolean readPerson() {
            int p = draft.people;
            if (p >= MOST_PEOPLE) {
                return fails(ROOM);
            }
            if (!goOn() || !readNewName(personNames, p) || !readNumber(WIDEST)) {
                return false;
            }
            draft.shoulders[p] = number;
            if (!readNumber(HIGHEST_RANK)) {
                return false;
            }
            draft.rank[p] = number;
            draft.people++;
            return pass(';');
        }

        private boolean readHangs() {
            if (hangs >= MOST_HANGS) {
                return fails(ROOM);
            }
            hangs++;
            if (!goOn()) {
                return false;
            }
            int p = personNamed();
            if (!pass(Tape.NAME)) {
                return false;
            }
            int h = hangerNamed();
            if (!pass(Tape.NAME)) {
                return false;
            }
            if (p >= 0 && h >= 0) {
                draft.firstOn[p] = h;
            }
            return pass(';');
        }

        private int personNamed() {
            int p = indexOf(personNames, draft.people);
            if (p < 0) {
                keepFault(NO_SUCH_NAME);
            } else if (draft.firstOn[p] >= 0) {
                keepFault(TWICE);
            }
            return p;
        }

        private int hangerNamed() {
            int h = indexOf(hangerNames, draft.hangers);
            if (h < 0) {
                keepFault(NO_SUCH_NAME);
            } else if (draft.isFirstTaken(h)) {
                keepFault(TWICE);
            }
            return h;
        }

        private boolean readMoth() {
            if (!goOn() || !readNumber(HIGHEST_MOTH)) {
                return false;
            }
            draft.moth = number;
            return pass(';');
        }

        private boolean readSeed() {
            if (!goOn() || !readNumber(HIGHEST_SEED)) {
                return false;
            }
            draft.seed = number;
            return pass(';');
        }

        private boolean readLaw(Law law) {
            law.size = 0;
            if (!goOn() || !pass('=')) {
                return false;
            }
            for (int ifs = 0; ifs <= MOST_IFS && kind == Tape.IF; ifs++) {
                if (ifs == MOST_IFS) {
                    return fails(ROOM);
                }
                if (!readIf(law)) {
                    return false;
                }
            }
            if (!readSum(law)) {
                return false;
            }
            law.add(Law.END, 0);
            return pass(';');
        }

        private boolean readIf(Law law) {
            if (!goOn() || !readSum(law) || !pass('<')) {
                return false;
            }
            if (!readSum(law) || !pass(Tape.THEN)) {
                return false;
            }
            int jump = law.size;
            law.add(Law.GO_ON_IF_LESS, 0);
            if (!readSum(law) || !pass(Tape.ELSE)) {
                return false;
            }
            law.add(Law.END, 0);
            law.aimAtEnd(jump);
            return true;
        }

        /** An E with all that is in its ( ). */
        private boolean readSum(Law law) {
            waiters.begin();
            boolean isWhole = false;
            for (int i = 0; i <= Tape.MOST_TOKENS && !isWhole; i++) {
                if (!readOpening() || !readOperand(law) || !readClosing(law)) {
                    return false;
                }
                isWhole = Waiters.strengthOf(kind) == 0;
                if (!isWhole) {
                    waiters.add(law, kind);
                    if (!goOn()) {
                        return false;
                    }
                }
            }
            waiters.letGo(law, 1);
            return waiters.deep == 0 || fails(SYNTAX);
        }

        private boolean readOpening() {
            for (int i = 0; i <= MOST_DEEP && kind == '('; i++) {
                if (waiters.deep >= MOST_DEEP) {
                    return fails(ROOM);
                }
                waiters.open();
                if (!goOn()) {
                    return false;
                }
            }
            return true;
        }

        private boolean readOperand(Law law) {
            if (kind == Tape.INT) {
                law.add(Law.PUT_INT, (int) value);
            } else if (kind >= Tape.FIRST_VAR && kind <= Tape.LAST_VAR) {
                law.add(Law.PUT_VAR, kind - Tape.FIRST_VAR);
            } else {
                return fails(SYNTAX);
            }
            return goOn();
        }

        private boolean readClosing(Law law) {
            for (int i = 0; i < MOST_DEEP && waiters.deep > 0 && kind == ')'; i++) {
                waiters.letGo(law, 1);
                waiters.close();
                if (!goOn()) {
                    return false;
                }
            }
            return true;
        }

        private boolean readNewName(long[] names, int index) {
            if (kind == Tape.NAME && isNameTold()) {
                keepFault(TWICE);
            }
            if (index >= 0 && index < names.length) {
                names[index] = value;
            }
            return pass(Tape.NAME);
        }

        private boolean isNameTold() {
            return indexOf(hangerNames, draft.hangers) >= 0 || indexOf(personNames, draft.people) >= 0;
        }

        private int indexOf(long[] names, int many) {
            for (int i = 0; i < many && i < names.length; i++) {
                if (names[i] == value) {
                    return i;
                }
            }
            return NONE;
        }

        private boolean readNumber(int most) {
            if (kind == Tape.INT && value > most) {
                keepFault(WRONG);
            }
            number = (int) value;
            return pass(Tape.INT);
        }

        private boolean pass(int due) {
            return kind == due ? goOn() : fails(SYNTAX);
        }

        /** Only a TOKEN that fits comes here, so SYNTAX goes before ROOM at one place. */
        private boolean goOn() {
            if (at >= Tape.MOST_TOKENS) {
                return fails(ROOM);
            }
            lookAt(at + 1);
            return true;
        }

        private void lookAt(int token) {
            at = token;
            kind = tape.kinds[token];
            value = tape.values[token];
        }

        private boolean fails(int which) {
            fault = which;
            faultPlace = tape.places[at];
            return false;
        }

        private void keepFault(int which) {
            if (senseFault == 0) {
                senseFault = which;
                sensePlace = tape.places[at];
            }
        }
    }

    /** The + - * / and ( of an E that wait for what stands behind them. */
    private static final class Waiters {
        /** In each of 7 levels wait one of + -, one of * / and the ( of the next level at most. */
        private static final int MOST = 32;

        private final int[] signs = new int[MOST];
        private int size;
        /** How many ( are open. */
        int deep;

        void begin() {
            size = 0;
            deep = 0;
        }

        void open() {
            put('(');
            deep++;
        }

        /** The ( is the last one that waits: what waited behind it has been let go. */
        void close() {
            size = Math.max(0, size - 1);
            deep--;
        }

        void add(Law law, int sign) {
            letGo(law, strengthOf(sign));
            put(sign);
        }

        /** Those that bind as tightly, or more, have all they need; a ( holds back what is ahead of it. */
        void letGo(Law law, int strength) {
            while (size > 0 && strengthOf(signs[size - 1]) >= strength) {
                size--;
                law.add(signs[size], 0);
            }
        }

        private void put(int sign) {
            if (size < MOST) {
                signs[size] = sign;
                size++;
            }
        }

        /** 0 for what is none of the four. */
        static int strengthOf(int kind) {
            switch (kind) {
                case '*':
                case '/': return 2;
                case '+':
                case '-': return 1;
                default: return 0;
            }
        }
    }

    /**
     * A LAW as steps over a pile of numbers: first the operands, then what is done with them. The step
     * of + - * / is the sign itself.
     */
    private static final class Law {
        static final int PUT_INT = 1;
        static final int PUT_VAR = 2;
        /** Takes two numbers; if the first is not less, it goes on at the step that it names. */
        static final int GO_ON_IF_LESS = 3;
        static final int END = 4;

        /** Each TOKEN of a text makes one step at most. */
        private static final int MOST_STEPS = Tape.MOST_TOKENS;

        final int[] kinds = new int[MOST_STEPS];
        final int[] values = new int[MOST_STEPS];
        int size = 0;

        void add(int kind, int value) {
            if (size < MOST_STEPS) {
                kinds[size] = kind;
                values[size] = value;
                size++;
            }
        }

        void aimAtEnd(int step) {
            if (step >= 0 && step < size) {
                values[step] = size;
            }
        }

        void becomeOneStep(int kind, int value) {
            size = 0;
            add(kind, value);
            add(END, 0);
        }

        void become(Law other) {
            System.arraycopy(other.kinds, 0, kinds, 0, other.size);
            System.arraycopy(other.values, 0, values, 0, other.size);
            size = other.size;
        }
    }

    /** What a text tells, none of which a night changes. */
    private static final class Text {
        int hangers;
        final int[] nail = new int[MOST_HANGERS];
        final int[] breadth = new int[MOST_HANGERS];
        int people;
        final int[] shoulders = new int[MOST_PEOPLE];
        final int[] rank = new int[MOST_PEOPLE];
        final int[] firstOn = new int[MOST_PEOPLE];
        final Law crooks = new Law();
        final Law bends = new Law();
        final Law slips = new Law();
        final Law costs = new Law();
        int moth;
        int seed;

        Text() {
            clear();
        }

        void clear() {
            hangers = 0;
            people = 0;
            moth = 0;
            seed = 0;
            for (int p = 0; p < MOST_PEOPLE; p++) {
                firstOn[p] = NOWHERE;
            }
            crooks.becomeOneStep(Law.PUT_VAR, Reckoner.APART);
            bends.becomeOneStep(Law.PUT_INT, 0);
            slips.becomeOneStep(Law.PUT_INT, 0);
            costs.becomeOneStep(Law.PUT_VAR, Reckoner.APART);
        }

        void become(Text other) {
            hangers = other.hangers;
            people = other.people;
            moth = other.moth;
            seed = other.seed;
            System.arraycopy(other.nail, 0, nail, 0, MOST_HANGERS);
            System.arraycopy(other.breadth, 0, breadth, 0, MOST_HANGERS);
            System.arraycopy(other.shoulders, 0, shoulders, 0, MOST_PEOPLE);
            System.arraycopy(other.rank, 0, rank, 0, MOST_PEOPLE);
            System.arraycopy(other.firstOn, 0, firstOn, 0, MOST_PEOPLE);
            crooks.become(other.crooks);
            bends.become(other.bends);
            slips.become(other.slips);
            costs.become(other.costs);
        }

        boolean isFirstTaken(int hanger) {
            for (int p = 0; p < people; p++) {
                if (firstOn[p] == hanger) {
                    return true;
                }
            }
            return false;
        }

        Law law(int what) {
            switch (what) {
                case CROOKS: return crooks;
                case BENDS: return bends;
                case SLIPS: return slips;
                default: return costs;
            }
        }
    }

    /** All that nights and hands change. */
    private static final class State {
        private final Text text;
        int night;
        final int[] wide = new int[MOST_PEOPLE];
        final int[] on = new int[MOST_PEOPLE];
        final int[] self = new int[MOST_PEOPLE];
        final int[] crooked = new int[MOST_PEOPLE];
        final int[] bent = new int[MOST_HANGERS];

        State(Text text) {
            this.text = text;
            begin();
        }

        void begin() {
            night = 0;
            for (int p = 0; p < MOST_PEOPLE; p++) {
                wide[p] = text.shoulders[p];
                on[p] = text.firstOn[p];
                self[p] = p;
                crooked[p] = 0;
            }
            for (int h = 0; h < MOST_HANGERS; h++) {
                bent[h] = 0;
            }
        }

        void become(State other) {
            night = other.night;
            System.arraycopy(other.wide, 0, wide, 0, MOST_PEOPLE);
            System.arraycopy(other.on, 0, on, 0, MOST_PEOPLE);
            System.arraycopy(other.self, 0, self, 0, MOST_PEOPLE);
            System.arraycopy(other.crooked, 0, crooked, 0, MOST_PEOPLE);
            System.arraycopy(other.bent, 0, bent, 0, MOST_HANGERS);
        }

        void exchange(int person, int other) {
            int hanger = on[person];
            on[person] = on[other];
            on[other] = hanger;
        }

        boolean isHung(int person) {
            return on[person] >= 0;
        }

        boolean isTaken(int hanger) {
            return whoIsOn(hanger) >= 0;
        }

        int whoIsOn(int hanger) {
            for (int p = 0; p < text.people; p++) {
                if (on[p] == hanger) {
                    return p;
                }
            }
            return NOWHERE;
        }

        int nailOf(int person) {
            int hanger = on[person];
            return hanger >= 0 ? text.nail[hanger] : NOWHERE;
        }

        int peopleOnNail(int nail) {
            int many = 0;
            for (int p = 0; p < text.people; p++) {
                many += nailOf(p) == nail ? 1 : 0;
            }
            return many;
        }

        int othersBeside(int person) {
            return isHung(person) ? peopleOnNail(nailOf(person)) - 1 : 0;
        }

        boolean hasSelvesOf(State other) {
            for (int p = 0; p < text.people; p++) {
                if (self[p] != other.self[p]) {
                    return false;
                }
            }
            return true;
        }

        int bitsOfHung() {
            int bits = 0;
            for (int p = 0; p < text.people; p++) {
                bits |= isHung(p) ? 1 << p : 0;
            }
            return bits;
        }

        int bitsOfTaken() {
            int bits = 0;
            for (int p = 0; p < text.people; p++) {
                bits |= isHung(p) ? 1 << on[p] : 0;
            }
            return bits;
        }

        int bitsOfOwnSelves() {
            int bits = 0;
            for (int p = 0; p < text.people; p++) {
                bits |= self[p] == p ? 1 << p : 0;
            }
            return bits;
        }

        int bitsOfSharedNails() {
            int bits = 0;
            for (int nail = 0; nail < NAILS; nail++) {
                bits |= peopleOnNail(nail) >= 2 ? 1 << nail : 0;
            }
            return bits;
        }
    }

    /** Tells what LAWS say of a PERSON on a HANGER. */
    private static final class Reckoner {
        /** Numbers of the VARS. */
        static final int APART = 0;
        private static final int BENT = 1;
        private static final int WIDE = 2;
        private static final int RANK = 3;
        private static final int NIGHT = 4;
        private static final int CROOKED = 5;
        private static final int BESIDE = 6;
        private static final int WHICH = 7;
        private static final int NAIL = 8;
        private static final int VARS = 9;

        /** Each of 7 levels of ( ) leaves two operands open at most, and an if one more. */
        private static final int MOST_OPEN = 32;

        private final Text text;
        private final int[] vars = new int[VARS];
        private final int[] pile = new int[MOST_OPEN];

        Reckoner(Text text) {
            this.text = text;
        }

        void lookAtHung(State s, int person) {
            if (s.isHung(person)) {
                lookAt(s, person, s.on[person], s.othersBeside(person));
            }
        }

        void lookAt(State s, int person, int hanger, int beside) {
            int bent = s.bent[hanger];
            int wide = s.wide[person];
            vars[APART] = Math.abs(wide - text.breadth[hanger]) + bent;
            vars[BENT] = bent;
            vars[WIDE] = wide;
            vars[RANK] = text.rank[person];
            vars[NIGHT] = s.night;
            vars[CROOKED] = s.crooked[person];
            vars[BESIDE] = beside;
            vars[WHICH] = person;
            vars[NAIL] = text.nail[hanger];
        }

        int costAlone(State s, int person, int hanger) {
            lookAt(s, person, hanger, 0);
            return lawTells(COSTS);
        }

        int costOfAll(State s) {
            int sum = 0;
            for (int p = 0; p < text.people; p++) {
                if (s.isHung(p)) {
                    lookAtHung(s, p);
                    sum += lawTells(COSTS);
                }
            }
            return sum;
        }

        /** Of the PERSON and the HANGER looked at last. */
        int lawTells(int what) {
            int most = what == SLIPS ? 100 : 99;
            return Math.max(0, Math.min(most, valueOf(text.law(what))));
        }

        private int valueOf(Law law) {
            int open = 0;
            int at = 0;
            while (at < law.size) {
                int kind = law.kinds[at];
                int value = law.values[at];
                at++;
                if (kind == Law.PUT_INT || kind == Law.PUT_VAR) {
                    if (open >= MOST_OPEN) {
                        return 0;
                    }
                    pile[open] = kind == Law.PUT_INT ? value : varOf(value);
                    open++;
                } else if (kind == Law.END) {
                    return open > 0 ? pile[open - 1] : 0;
                } else {
                    if (open < 2 || kind == '/' && pile[open - 1] == 0) {
                        return 0;
                    }
                    open -= 2;
                    if (kind != Law.GO_ON_IF_LESS) {
                        pile[open] = joined(kind, pile[open], pile[open + 1]);
                        open++;
                    } else if (pile[open] >= pile[open + 1]) {
                        at = Math.max(at, value);
                    }
                }
            }
            return 0;
        }

        private int varOf(int number) {
            return number >= 0 && number < VARS ? vars[number] : 0;
        }

        private static int joined(int kind, int one, int other) {
            switch (kind) {
                case '+': return one + other;
                case '-': return one - other;
                case '*': return one * other;
                default: return other == 0 ? 0 : one / other;
            }
        }
    }

    /** How a NIGHT goes by. */
    private static final class Night {
        private static final int LOT_START = 159;
        private static final int MOTH_COMES = 8;
        private static final int MOTH_EATS = 9;

        private final Text text;
        private final Reckoner reckoner;
        private final int[] slips = new int[MOST_PEOPLE];

        Night(Text text, Reckoner reckoner) {
            this.text = text;
            this.reckoner = reckoner;
        }

        void goByWithAll(State s, int n, int seed) {
            for (int i = 0; i < n; i++) {
                goByOnce(s, seed);
            }
        }

        /** Who slipped is never hung again by a NIGHT, so the nights behind that one don't matter. */
        boolean staysHung(State s, int n, int seed, int person) {
            for (int i = 0; i < n && s.isHung(person); i++) {
                goByOnce(s, seed);
            }
            return s.isHung(person);
        }

        /** Without MOTHS and SLIPS. */
        void goByQuietly(State s) {
            for (int p = 0; p < text.people; p++) {
                crook(s, p);
            }
            wakeAll(s);
            s.night++;
        }

        private void goByOnce(State s, int seed) {
            for (int p = 0; p < text.people; p++) {
                crook(s, p);
            }
            wakeAll(s);
            letSlip(s, seed);
            letMothEat(s, seed);
            s.night++;
        }

        /** No other's laws look at what this changes, so it may be done one by one. */
        private void crook(State s, int person) {
            if (!s.isHung(person)) {
                s.crooked[person] = 0;
                slips[person] = 0;
                return;
            }
            int hanger = s.on[person];
            reckoner.lookAt(s, person, hanger, s.othersBeside(person));
            slips[person] = reckoner.lawTells(SLIPS);
            s.crooked[person] = Math.min(MOST_CROOKED, s.crooked[person] + reckoner.lawTells(CROOKS));
            s.bent[hanger] = Math.min(MOST_BENT, s.bent[hanger] + reckoner.lawTells(BENDS));
        }

        void wakeAll(State s) {
            for (int nail = 0; nail < NAILS; nail++) {
                wakeOnNail(s, nail);
            }
        }

        private void wakeOnNail(State s, int nail) {
            int last = NOWHERE;
            int firstSelf = NOWHERE;
            for (int p = 0; p < text.people; p++) {
                if (s.nailOf(p) == nail) {
                    if (last == NOWHERE) {
                        firstSelf = s.self[p];
                    } else {
                        s.self[last] = s.self[p];
                    }
                    last = p;
                }
            }
            if (last != NOWHERE) {
                s.self[last] = firstSelf;
            }
        }

        private void letSlip(State s, int seed) {
            for (int p = 0; p < text.people; p++) {
                if (lot(100, seed, 16 * s.night + p) < slips[p]) {
                    s.on[p] = NOWHERE;
                }
            }
        }

        private void letMothEat(State s, int seed) {
            if (text.people > 0 && hasMoth(seed, s.night)) {
                int p = lot(text.people, seed, 16 * s.night + MOTH_EATS);
                s.wide[p] = Math.max(0, s.wide[p] - 1);
            }
        }

        boolean hasMoth(int seed, int night) {
            return lot(100, seed, 16 * night + MOTH_COMES) < text.moth;
        }

        private static int lot(int n, int seed, int which) {
            int h = mixed(mixed(seed, LOT_START), which);
            return n > 0 ? (h >>> 1) % n : 0;
        }

        private static int mixed(int h, int with) {
            int mixed = (h ^ with) * 1103515245 + 12345;
            return mixed ^ mixed >>> 15;
        }
    }

    /** The hangings that would be: HANGING, APART and WAYS. */
    private static final class Plan {
        /** One PERSON more on a HANGER is worth more than all COSTS can be. */
        private static final int HUNG_WORTH = 1000;

        private final Text text;
        private final Reckoner reckoner;
        private final int[][] costs = new int[MOST_PEOPLE][MOST_HANGERS];
        /** What a HANGER takes from the others: a bit of its own, or of its NAIL. */
        private final int[] takes = new int[MOST_HANGERS];
        /** Of the people from one on, and what is taken by those ahead: the best that can be had. */
        private final int[][] best = new int[MOST_PEOPLE + 1][1 << MOST_HANGERS];

        Plan(Text text, Reckoner reckoner) {
            this.text = text;
            this.reckoner = reckoner;
        }

        void lookAtCosts(State s) {
            for (int p = 0; p < text.people; p++) {
                for (int h = 0; h < text.hangers; h++) {
                    costs[p][h] = reckoner.costAlone(s, p, h);
                }
            }
        }

        /** COSTS less HUNG_WORTH for each who is on a HANGER: the least that can be. */
        int findBest(boolean byNails, int without) {
            letTake(byNails);
            clearLast(0);
            for (int p = text.people - 1; p >= 0; p--) {
                for (int taken = 0; taken < best[p].length; taken++) {
                    if (Integer.bitCount(taken) <= p) {
                        best[p][taken] = leastFrom(p, taken, without);
                    }
                }
            }
            return best[0][0];
        }

        private int leastFrom(int p, int taken, int without) {
            int least = best[p + 1][taken];
            for (int h = 0; h < text.hangers; h++) {
                if (h != without && (taken & takes[h]) == 0) {
                    least = Math.min(least, worthOf(p, taken, h));
                }
            }
            return least;
        }

        private int worthOf(int p, int taken, int hanger) {
            return costs[p][hanger] - HUNG_WORTH + best[p + 1][taken | takes[hanger]];
        }

        int costOf(int worth) {
            return Math.floorMod(worth, HUNG_WORTH);
        }

        /** Which HANGER a PERSON has in what findBest found. */
        int hangerFor(int person, int without) {
            int taken = 0;
            int hanger = NOWHERE;
            for (int p = 0; p <= person && p < text.people; p++) {
                hanger = firstBest(p, taken, without);
                taken |= hanger >= 0 ? takes[hanger] : 0;
            }
            return hanger;
        }

        private int firstBest(int p, int taken, int without) {
            for (int h = 0; h < text.hangers; h++) {
                boolean can = h != without && (taken & takes[h]) == 0;
                if (can && worthOf(p, taken, h) == best[p][taken]) {
                    return h;
                }
            }
            return NOWHERE;
        }

        int waysWithin(int v) {
            letTake(true);
            clearLast(1);
            for (int p = text.people - 1; p >= 0; p--) {
                for (int taken = 0; taken < 1 << NAILS; taken++) {
                    best[p][taken] = waysFrom(p, taken, v);
                }
            }
            return best[0][0];
        }

        private int waysFrom(int p, int taken, int v) {
            int ways = 0;
            for (int h = 0; h < text.hangers; h++) {
                if (costs[p][h] <= v && (taken & takes[h]) == 0) {
                    ways += best[p + 1][taken | takes[h]];
                }
            }
            return ways;
        }

        private void letTake(boolean byNails) {
            for (int h = 0; h < text.hangers; h++) {
                takes[h] = 1 << (byNails ? text.nail[h] : h);
            }
        }

        private void clearLast(int value) {
            int[] last = best[text.people];
            for (int taken = 0; taken < last.length; taken++) {
                last[taken] = value;
            }
        }
    }

    /** The last things done, as the states that were ahead of them. */
    private static final class Past {
        private static final int MOST = 40;

        private final State[] states = new State[MOST];
        private int next = 0;
        int size = 0;

        Past(Text text) {
            for (int i = 0; i < MOST; i++) {
                states[i] = new State(text);
            }
        }

        void drop() {
            size = 0;
        }

        void keep(State s) {
            states[next].become(s);
            next = (next + 1) % MOST;
            size = Math.min(MOST, size + 1);
        }

        boolean giveBack(State s) {
            if (size == 0) {
                return false;
            }
            next = (next + MOST - 1) % MOST;
            size--;
            s.become(states[next]);
            return true;
        }
    }

    /** What is TOLD of two who changed, and which two it can be. */
    private static final class Told {
        private static final int MOST = 20;

        private final Text text;
        private final Night night;
        private final State morning;
        private final int[] people = new int[MOST];
        private final int[] selves = new int[MOST];
        private final boolean[] so = new boolean[MOST];
        private final int[][] tally = new int[MOST_PEOPLE][MOST_PEOPLE];
        int size = 0;

        Told(Text text, Night night) {
            this.text = text;
            this.night = night;
            morning = new State(text);
        }

        boolean hasRoom() {
            return size < MOST;
        }

        int add(int person, int self, boolean isSo) {
            if (!hasRoom()) {
                return NONE;
            }
            people[size] = person;
            selves[size] = self;
            so[size] = isSo;
            size++;
            return size - 1;
        }

        int pairsLeft(State now, int k) {
            int left = 0;
            for (int p = 0; p < text.people; p++) {
                for (int other = p + 1; other < text.people; other++) {
                    left += canBe(now, p, other, k) ? 1 : 0;
                }
            }
            return left;
        }

        int pairLeft(State now, int k, int i) {
            int left = 0;
            for (int p = 0; p < text.people; p++) {
                for (int other = p + 1; other < text.people; other++) {
                    if (canBe(now, p, other, k)) {
                        if (left == i) {
                            return 10 * p + other;
                        }
                        left++;
                    }
                }
            }
            return NONE;
        }

        int whomToAsk(State now, int k) {
            clearTally();
            boolean isOneLeft = false;
            for (int p = 0; p < text.people; p++) {
                for (int other = p + 1; other < text.people; other++) {
                    if (canBe(now, p, other, k)) {
                        isOneLeft = true;
                        addToTally();
                    }
                }
            }
            return isOneLeft ? leastAtWorst() : NOWHERE;
        }

        /** Leaves in morning who would have which SELF, if it can be these two. */
        private boolean canBe(State now, int p, int other, int k) {
            if (!now.isHung(p) || !now.isHung(other)) {
                return false;
            }
            morning.become(now);
            morning.exchange(p, other);
            night.wakeAll(morning);
            for (int i = 0; i < k && i < size; i++) {
                if ((morning.self[people[i]] == selves[i]) != so[i]) {
                    return false;
                }
            }
            return true;
        }

        private void clearTally() {
            for (int p = 0; p < MOST_PEOPLE; p++) {
                for (int self = 0; self < MOST_PEOPLE; self++) {
                    tally[p][self] = 0;
                }
            }
        }

        private void addToTally() {
            for (int p = 0; p < text.people; p++) {
                tally[p][morning.self[p]]++;
            }
        }

        private int leastAtWorst() {
            int which = NOWHERE;
            int least = 0;
            for (int p = 0; p < text.people; p++) {
                int worst = 0;
                for (int self = 0; self < text.people; self++) {
                    worst = Math.max(worst, tally[p][self]);
                }
                if (which == NOWHERE || worst < least) {
                    which = p;
                    least = worst;
                }
            }
            return which;
        }
    }
}

import java.util.Arrays;

/** A field of small machines that come to run a new program over bad air. */
public final class MeshField {
    public static final int NONE = -1;

    private static final int MOST_MACHINES = 12;
    private static final int MOST_PIECES = 12;
    private static final int MOST_NUMBER = 9999;
    private static final int MOST_ODDS = 100;
    private static final int MOST_TURN_TICK = 1000000;
    private static final int MOST_TICKS_AT_ONCE = 200;
    private static final int LAST_TICK = 100000;
    private static final int FIRST_MASK = 100;

    private final Draws draws;
    private final Rules fieldRules;
    private final Machine[] machines;
    /** By hearer and sender: the odds that a letter is lost, NONE where nothing is heard. */
    private final int[] lossOdds;
    private final int[] toldPieces;
    private int machineCount;
    private int toldCount;
    private int now;
    /** Only load() brings a NUMBER that no machine keeps yet, so it alone moves this one. */
    private int greatestNumber;
    private int allWholeAt;

    public MeshField() {
        draws = new Draws();
        fieldRules = new Rules();
        machines = new Machine[MOST_MACHINES];
        lossOdds = new int[MOST_MACHINES * MOST_MACHINES];
        Arrays.fill(lossOdds, NONE);
        toldPieces = new int[MOST_PIECES];
        allWholeAt = NONE;
    }

    public void seed(int s) {
        draws.state = s;
    }

    public boolean rules(int few, int low, int high, int wait) {
        boolean known = within(few, 1, 9) && within(low, 2, 64)
                && within(high, low, 1024) && within(wait, 1, 32);
        if (!known || machineCount > 0) {
            return false;
        }
        fieldRules.few = few;
        fieldRules.low = low;
        fieldRules.high = high;
        fieldRules.wait = wait;
        return true;
    }

    public int machine() {
        int number = machineCount;
        if (number < 0 || number >= machines.length) {
            return NONE;
        }
        Machine made = new Machine(fieldRules, draws);
        made.interval.begin(fieldRules.low, now, draws);
        machines[number] = made;
        machineCount = number + 1;
        return number;
    }

    public boolean hears(int a, int b, int odds) {
        if (machineAt(a) == null || machineAt(b) == null || a == b || !within(odds, NONE, MOST_ODDS)) {
            return false;
        }
        int pair = pairOf(a, b);
        if (pair == NONE) {
            return false;
        }
        lossOdds[pair] = odds;
        return true;
    }

    public int piece(int data) {
        if (toldCount < 0 || toldCount >= toldPieces.length) {
            return NONE;
        }
        toldPieces[toldCount] = data;
        toldCount++;
        return toldCount;
    }

    public int load(int machine, int number) {
        Machine loaded = machineAt(machine);
        if (loaded == null || toldCount == 0 || !within(number, 1, MOST_NUMBER) || number <= loaded.number) {
            return NONE;
        }
        loaded.keepWhole(number, toldPieces, toldCount);
        loaded.stir(now);
        toldCount = 0;
        if (number > greatestNumber) {
            greatestNumber = number;
            allWholeAt = NONE;
        }
        return loaded.basis.rank;
    }

    public boolean turn(int machine, int number, int tick) {
        Machine told = machineAt(machine);
        if (told == null || !within(number, 1, MOST_NUMBER) || !within(tick, 0, MOST_TURN_TICK)) {
            return false;
        }
        return told.takeTurn(number, tick);
    }

    public boolean lie(int machine, int mask, int data) {
        Machine fooled = machineAt(machine);
        if (fooled == null || fooled.number == 0 || !within(mask, 1, (1 << fooled.pieces) - 1)) {
            return false;
        }
        if (fooled.takeOwnMix(mask, data)) {
            fooled.stir(now);
        }
        return true;
    }

    public boolean cut(int machine, boolean torn) {
        Machine struck = machineAt(machine);
        if (struck == null) {
            return false;
        }
        struck.losePower(torn, now);
        return true;
    }

    public int ticks(int n) {
        if (!within(n, 1, MOST_TICKS_AT_ONCE) || n > LAST_TICK - now) {
            return NONE;
        }
        for (int i = 0; i < n; i++) {
            sendLetters();
            hearLetters();
            letLettersWork();
            endTick();
            noteAllWhole();
            now++;
        }
        return now;
    }

    public int machineOf(int machine, int what) {
        Machine asked = machineAt(machine);
        if (asked == null) {
            return NONE;
        }
        if (what >= FIRST_MASK) {
            return asked.basis.maskOfNth(what - FIRST_MASK);
        }
        return asked.answer(what);
    }

    public int data(int machine, int i) {
        Machine asked = machineAt(machine);
        return asked == null ? 0 : asked.basis.dataOfNth(i);
    }

    public int sum(int machine) {
        Machine asked = machineAt(machine);
        return asked == null ? 0 : asked.keptSum;
    }

    public int about(int what) {
        switch (what) {
            case 0: return machineCount;
            case 1: return now;
            case 2: return lettersSent();
            case 3: return runnersOfGreatest();
            case 4: return toldCount;
            case 5: return allWholeAt;
            default: return NONE;
        }
    }

    private static boolean within(int value, int least, int most) {
        return value >= least && value <= most;
    }

    private Machine machineAt(int number) {
        if (number < 0 || number >= machineCount || number >= machines.length) {
            return null;
        }
        return machines[number];
    }

    private int pairOf(int hearer, int sender) {
        int pair = hearer * MOST_MACHINES + sender;
        return within(pair, 0, lossOdds.length - 1) ? pair : NONE;
    }

    private int oddsBetween(int hearer, int sender) {
        int pair = pairOf(hearer, sender);
        return pair == NONE ? NONE : lossOdds[pair];
    }

    private void sendLetters() {
        for (int i = 0; i < machineCount; i++) {
            Machine sender = machineAt(i);
            if (sender != null) {
                sender.send(now);
            }
        }
    }

    /** Every loss is drawn before any letter works, because working draws too. */
    private void hearLetters() {
        for (int i = 0; i < machineCount; i++) {
            Machine hearer = machineAt(i);
            if (hearer != null) {
                hearer.caught = null;
                if (!hearer.letter.isSent()) {
                    listen(hearer, i);
                }
            }
        }
    }

    private void listen(Machine hearer, int number) {
        Letter only = null;
        int onlyOdds = NONE;
        int count = 0;
        for (int i = 0; i < machineCount; i++) {
            Machine sender = machineAt(i);
            int pairOdds = oddsBetween(number, i);
            if (sender != null && sender.letter.isSent() && pairOdds != NONE) {
                only = sender.letter;
                onlyOdds = pairOdds;
                count++;
            }
        }
        if (count > 1) {
            hearer.spoilt++;
        } else if (count == 1 && draws.below(100) < onlyOdds) {
            hearer.lost++;
        } else {
            hearer.caught = only;
        }
    }

    private void letLettersWork() {
        for (int i = 0; i < machineCount; i++) {
            Machine hearer = machineAt(i);
            if (hearer != null && hearer.caught != null) {
                hearer.take(hearer.caught, now);
            }
        }
    }

    private void endTick() {
        for (int i = 0; i < machineCount; i++) {
            Machine ended = machineAt(i);
            if (ended != null) {
                ended.end(now);
            }
        }
    }

    private void noteAllWhole() {
        if (allWholeAt != NONE || greatestNumber == 0) {
            return;
        }
        for (int i = 0; i < machineCount; i++) {
            Machine seen = machineAt(i);
            if (seen == null || !seen.isWholeOf(greatestNumber)) {
                return;
            }
        }
        allWholeAt = now;
    }

    private int lettersSent() {
        int letters = 0;
        for (int i = 0; i < machineCount; i++) {
            Machine sender = machineAt(i);
            if (sender != null) {
                letters += sender.tellsSent + sender.mixesSent;
            }
        }
        return letters;
    }

    private int runnersOfGreatest() {
        int runners = 0;
        for (int i = 0; i < machineCount; i++) {
            Machine seen = machineAt(i);
            // A machine runs 0 at first, which is no program to be counted.
            if (seen != null && greatestNumber != 0 && seen.runs == greatestNumber) {
                runners++;
            }
        }
        return runners;
    }

    private static final class Draws {
        private int state = 1;

        int below(int bound) {
            state = state * 1103515245 + 12345;
            return bound < 1 ? 0 : (state >>> 16) % bound;
        }
    }

    private static final class Rules {
        private int few = 2;
        private int low = 4;
        private int high = 64;
        private int wait = 6;
    }

    private static final class Interval {
        private int span;
        private int began;
        private int tellsAt;
        private int heard;

        void begin(int newSpan, int at, Draws draws) {
            span = newSpan;
            began = at;
            heard = 0;
            tellsAt = at + newSpan / 2 + draws.below(newSpan - newSpan / 2);
        }
    }

    /** One of these belongs to each machine and is written anew at each tick, so that a tick makes no object. */
    private static final class Letter {
        private static final int UNSENT = 0;
        private static final int TELL = 1;
        private static final int MIX = 2;

        private int kind;
        private int number;
        private int rank;
        private int pieces;
        private int programSum;
        private int mask;
        private int mixed;
        private int turnNumber;
        private int turnTick;

        boolean isSent() {
            return kind != UNSENT;
        }
    }

    /**
     * The MIXES stand at the index of their HEAD; a MASK of 0 says that none has that HEAD.
     * No MIX has the HEAD of another one, so the order of taking away never matters.
     */
    private static final class Basis {
        private final int[] masks = new int[MOST_PIECES];
        private final int[] mixed = new int[MOST_PIECES];
        private int rank;

        void empty() {
            Arrays.fill(masks, 0);
            Arrays.fill(mixed, 0);
            rank = 0;
        }

        boolean takeIn(int mask, int data) {
            int restMask = mask;
            int restData = data;
            for (int head = 0; head < MOST_PIECES; head++) {
                if (masks[head] != 0 && has(restMask, head)) {
                    restMask ^= masks[head];
                    restData ^= mixed[head];
                }
            }
            int newHead = headOf(restMask);
            if (newHead == NONE) {
                return false;
            }
            for (int head = 0; head < MOST_PIECES; head++) {
                if (has(masks[head], newHead)) {
                    masks[head] ^= restMask;
                    mixed[head] ^= restData;
                }
            }
            masks[newHead] = restMask;
            mixed[newHead] = restData;
            rank++;
            return true;
        }

        void tearLeast() {
            for (int head = 0; head < MOST_PIECES; head++) {
                if (masks[head] != 0) {
                    masks[head] = 0;
                    mixed[head] = 0;
                    rank--;
                    return;
                }
            }
        }

        void mixInto(Letter letter, int chosen) {
            letter.mask = 0;
            letter.mixed = 0;
            int place = 0;
            for (int head = MOST_PIECES - 1; head >= 0; head--) {
                if (masks[head] != 0) {
                    if (has(chosen, place)) {
                        letter.mask ^= masks[head];
                        letter.mixed ^= mixed[head];
                    }
                    place++;
                }
            }
            // MIXES of different HEADS never cancel out, so 0 says that none was chosen.
            if (letter.mask == 0) {
                letter.mask = maskOfNth(0);
                letter.mixed = dataOfNth(0);
            }
        }

        /** The PIECES' sum, if every MIX is one PIECE alone, as it is when none is missing. */
        int sumOfPieces() {
            int total = 0;
            for (int head = 0; head < MOST_PIECES; head++) {
                total += mixed[head] * (head + 1);
            }
            return total;
        }

        int maskOfNth(int nth) {
            int head = headOfNth(nth);
            return head == NONE ? NONE : masks[head];
        }

        int dataOfNth(int nth) {
            int head = headOfNth(nth);
            return head == NONE ? 0 : mixed[head];
        }

        private int headOfNth(int nth) {
            int place = 0;
            for (int head = MOST_PIECES - 1; head >= 0; head--) {
                if (masks[head] != 0) {
                    if (place == nth) {
                        return head;
                    }
                    place++;
                }
            }
            return NONE;
        }

        private static int headOf(int mask) {
            for (int head = MOST_PIECES - 1; head >= 0; head--) {
                if (has(mask, head)) {
                    return head;
                }
            }
            return NONE;
        }

        private static boolean has(int bits, int place) {
            return (bits >>> place & 1) != 0;
        }
    }

    private static final class Machine {
        private final Rules rules;
        private final Draws draws;
        private final Basis basis = new Basis();
        private final Interval interval = new Interval();
        private final Letter letter = new Letter();
        private Letter caught;
        private int number;
        private int pieces;
        private int keptSum;
        private int runs;
        private int dataAt = NONE;
        private int turnNumber;
        private int turnTick;
        private int tellsSent;
        private int mixesSent;
        private int spoilt;
        private int lost;
        private int lies;

        Machine(Rules rules, Draws draws) {
            this.rules = rules;
            this.draws = draws;
        }

        void keepWhole(int newNumber, int[] told, int count) {
            keep(newNumber, count, 0);
            for (int i = 0; i < count && i < told.length; i++) {
                basis.takeIn(1 << i, told[i]);
            }
            keptSum = basis.sumOfPieces();
        }

        private void keep(int newNumber, int newPieces, int newSum) {
            number = newNumber;
            pieces = newPieces;
            keptSum = newSum;
            basis.empty();
        }

        boolean isWhole() {
            // A basis that is full with a wrong sum is emptied at once, so the rank tells all.
            return number != 0 && basis.rank == pieces;
        }

        boolean isWholeOf(int wanted) {
            return number == wanted && isWhole();
        }

        void stir(int tick) {
            if (interval.span > rules.low) {
                interval.begin(rules.low, tick + 1, draws);
            }
        }

        boolean takeTurn(int newNumber, int newTick) {
            if (newNumber <= turnNumber) {
                return false;
            }
            turnNumber = newNumber;
            turnTick = newTick;
            return true;
        }

        void losePower(boolean torn, int tick) {
            if (torn) {
                basis.tearLeast();
            }
            interval.begin(rules.low, tick, draws);
            dataAt = NONE;
            turnNumber = 0;
            turnTick = 0;
        }

        void send(int tick) {
            boolean dataIsDue = dataAt == tick;
            if (dataIsDue) {
                dataAt = NONE;
            }
            if (dataIsDue && basis.rank > 0) {
                basis.mixInto(letter, draws.below(1 << MOST_PIECES));
                address(Letter.MIX);
                mixesSent++;
            } else if (interval.tellsAt == tick && interval.heard < rules.few) {
                address(Letter.TELL);
                tellsSent++;
            } else {
                letter.kind = Letter.UNSENT;
            }
        }

        private void address(int kind) {
            letter.kind = kind;
            letter.number = number;
            letter.rank = basis.rank;
            letter.pieces = pieces;
            letter.programSum = keptSum;
            letter.turnNumber = turnNumber;
            letter.turnTick = turnTick;
        }

        void take(Letter heard, int tick) {
            takeTurn(heard.turnNumber, heard.turnTick);
            if (heard.kind == Letter.TELL) {
                takeTell(heard, tick);
            } else {
                takeMix(heard, tick);
            }
        }

        private void takeTell(Letter tell, int tick) {
            if (tell.number == number && tell.rank == basis.rank) {
                interval.heard++;
                return;
            }
            stir(tick);
            boolean lacks = tell.number < number || tell.number == number && tell.rank < basis.rank;
            if (lacks && dataAt == NONE) {
                dataAt = tick + 1 + draws.below(rules.wait);
            }
        }

        private void takeMix(Letter mix, int tick) {
            if (mix.number > number) {
                keep(mix.number, mix.pieces, mix.programSum);
            }
            boolean own = mix.number == number && mix.pieces == pieces && mix.programSum == keptSum;
            if (!own || takeOwnMix(mix.mask, mix.mixed)) {
                stir(tick);
            }
        }

        /** Whether it came into the basis: then it stirs, even if the basis turned out to be a lie. */
        boolean takeOwnMix(int mask, int data) {
            dataAt = NONE;
            if (!basis.takeIn(mask, data)) {
                return false;
            }
            if (basis.rank == pieces && basis.sumOfPieces() != keptSum) {
                basis.empty();
                lies++;
            }
            return true;
        }

        void end(int tick) {
            if (tick + 1 - interval.began >= interval.span) {
                int doubled = Math.min(interval.span * 2, rules.high);
                interval.begin(doubled, tick + 1, draws);
            }
            if (turnNumber != 0 && tick + 1 >= turnTick && isWholeOf(turnNumber)) {
                runs = turnNumber;
            }
        }

        int answer(int what) {
            switch (what) {
                case 0: return number;
                case 1: return pieces;
                case 2: return basis.rank;
                case 3: return isWhole() ? 1 : 0;
                case 4: return runs;
                case 5: return interval.span;
                case 6: return interval.began;
                case 7: return interval.tellsAt;
                case 8: return interval.heard;
                case 9: return dataAt;
                case 10: return tellsSent;
                case 11: return mixesSent;
                case 12: return spoilt;
                case 13: return lost;
                case 14: return lies;
                case 15: return turnNumber;
                case 16: return turnTick;
                default: return NONE;
            }
        }
    }
}

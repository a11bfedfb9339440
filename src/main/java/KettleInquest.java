/** An inquest with a kettle in the corner that boils at the wrong answer; README.md says how it is used. */
public final class KettleInquest {
    private static final int FACTS = 8;
    private static final int ALL_FACTS = 255;
    private static final int MOST_WITNESSES = 8;
    private static final int MOST_SURE = 9;
    private static final int MOST_HEAT = 99;
    private static final int MOST_WATER = 99;
    private static final int MOST_TEA = 9999;
    private static final int MOST_MINUTE = 99999;
    private static final int FARTHEST = 200;
    private static final int FAR = 60;
    private static final int NEAR = 20;

    private static final int WITNESS = 0;
    private static final int PLUMBER = 1;
    private static final int WIFE = 2;
    private static final int CHILD = 3;
    private static final int EXPERT = 4;
    private static final int NURSE = 5;
    private static final int KINDS = 6;
    private static final int LEVELS = 3;
    private static final int[] KIND_ABOVE = {-1, WITNESS, WITNESS, WITNESS, PLUMBER, WIFE};
    private static final int[] DOUBT_OF_KIND = {1, 2, 1, 0, 0, 1};

    private static final int TAPE_BYTES = 120;
    private static final int SHEETS = 4;
    private static final int MOST_NUMBERS = 40;
    private static final int MOST_READ = 12;

    private static final int FIRST_FINDING = -1000000001;
    private static final int FINDINGS = 7;
    private static final int BEYOND = 0;
    private static final int FULL = 1;
    private static final int OTHER_KIND = 2;
    private static final int NONE = 3;
    private static final int STATE = 4;
    private static final int MISSING = 5;
    private static final int SIZE = 6;

    private final Hall hall = new Hall();
    /** What might be is tried here, so that no call needs a new hall. */
    private final Hall trial = new Hall();
    private final Hall kept = new Hall();
    private boolean isKept = false;
    private final Clerk clerk = new Clerk();
    private final Sheet[] sheets = new Sheet[SHEETS];
    private final int[] found = new int[FINDINGS];

    public KettleInquest() {
        for (int s = 0; s < SHEETS; s++) {
            sheets[s] = new Sheet();
        }
    }

    // ---- facts, the kettle

    public int truth(int set) {
        if (!isWithin(set, 0, ALL_FACTS)) {
            return finding(BEYOND);
        }
        int was = hall.truth;
        hall.truth = set;
        return was;
    }

    public int kettle(int what, int v) {
        if (!isKettleValue(what, v)) {
            return finding(BEYOND);
        }
        int was;
        if (what == 0) {
            was = hall.heat;
            hall.heat = v;
        } else if (what == 1) {
            was = hall.water;
            hall.water = v;
        } else {
            was = hall.boilsAt;
            hall.boilsAt = v;
        }
        return was;
    }

    // ---- witnesses

    public int witness(int kind) {
        if (!isKind(kind)) {
            return finding(BEYOND);
        }
        if (hall.count >= MOST_WITNESSES) {
            return finding(FULL);
        }
        return hall.callWitness(kind);
    }

    public int of(int witness, int what) {
        if (!isWitness(witness)) {
            return finding(BEYOND);
        }
        switch (what) {
            case 0: return hall.kinds[witness];
            case 1: return hall.known[witness];
            case 2: return hall.said[witness];
            case 3: return hall.sures[witness];
            case 4: return hall.lieSet(witness);
            case 5: return hall.luckySet(witness);
            case 6: return hall.wrongSet(witness);
            case 7: return hall.doubtOf(witness);
            default: return finding(BEYOND);
        }
    }

    public int set(int witness, int what, int v) {
        if (!isWitness(witness) || !isWithin(what, 1, 3)) {
            return finding(BEYOND);
        }
        if (!isWithin(v, 0, what == 3 ? MOST_SURE : ALL_FACTS)) {
            return finding(BEYOND);
        }
        int[] row = what == 1 ? hall.known : what == 2 ? hall.said : hall.sures;
        int was = row[witness];
        row[witness] = v;
        return was;
    }

    public int turn(int witness, int kind) {
        if (!isWitness(witness) || !isKind(kind)) {
            return finding(BEYOND);
        }
        int was = hall.kinds[witness];
        hall.kinds[witness] = kind;
        return was;
    }

    public int as(int witness, int kind) {
        if (!isWitness(witness) || !isKind(kind)) {
            return finding(BEYOND);
        }
        if (!isOfKind(hall.kinds[witness], kind)) {
            return finding(OTHER_KIND);
        }
        return hall.sures[witness];
    }

    public int heats(int witness, int fact) {
        if (!isWitness(witness) || !isFact(fact)) {
            return finding(BEYOND);
        }
        return 100 + hall.heatBy(witness, fact);
    }

    public int ask(int witness, int fact) {
        if (!isWitness(witness) || !isFact(fact)) {
            return finding(BEYOND);
        }
        return hall.hearAnswer(witness, fact) ? 1 : 0;
    }

    public int swap(int witness, int other) {
        if (!isWitness(witness) || !isWitness(other) || witness == other) {
            return finding(BEYOND);
        }
        hall.changeNumbers(witness, other);
        return 1;
    }

    // ---- minutes

    public int minutes(int n) {
        if (!isWithin(n, 1, 100)) {
            return finding(BEYOND);
        }
        if (hall.minute + n > MOST_MINUTE) {
            return finding(STATE);
        }
        return hall.teaAfter(n);
    }

    public int now(int what) {
        boolean anybody = hall.count > 0;
        switch (what) {
            case 0: return hall.minute;
            case 1: return hall.heat;
            case 2: return hall.water;
            case 3: return hall.tea;
            case 4: return hall.boilsAt;
            case 5: return anybody ? hall.whoseTurn() : -1;
            case 6: return anybody ? hall.factAsked() : 0;
            case 7: return hall.truth;
            default: return finding(BEYOND);
        }
    }

    public int on(int n, int what) {
        if (!isWithin(n, 0, FARTHEST) || !isWithin(what, 0, 2)) {
            return finding(BEYOND);
        }
        trial.become(hall);
        int tea = trial.teaAfter(n);
        return what == 0 ? trial.heat : what == 1 ? trial.water : tea;
    }

    public int then(int witness, int n, int what) {
        if (!isWitness(witness) || !isWithin(n, 0, FARTHEST) || !isWithin(what, 0, 1)) {
            return finding(BEYOND);
        }
        trial.become(hall);
        trial.teaAfter(n);
        return what == 0 ? trial.sures[witness] : trial.known[witness];
    }

    public int boils() {
        trial.become(hall);
        for (int n = 1; n <= FARTHEST; n++) {
            if (trial.passMinute()) {
                return n;
            }
        }
        return finding(NONE);
    }

    public int doubts(int witness) {
        if (!isWitness(witness)) {
            return finding(BEYOND);
        }
        trial.become(hall);
        for (int n = 0; n <= FARTHEST; n++) {
            if (trial.sures[witness] == 0) {
                return n;
            }
            trial.passMinute();
        }
        return finding(NONE);
    }

    // ---- what is best

    public int worst(int witness) {
        if (!isWitness(witness)) {
            return finding(BEYOND);
        }
        int best = 0;
        int most = -1;
        for (int fact = 0; fact < FACTS; fact++) {
            trial.become(hall);
            trial.hearAnswer(witness, fact);
            if (trial.heat > most) {
                most = trial.heat;
                best = fact;
            }
        }
        return best;
    }

    public int turns(int n) {
        if (!isWithin(n, 1, FAR)) {
            return finding(BEYOND);
        }
        trial.become(hall);
        int most = trial.teaAfter(n);
        int best = -1;
        for (int lesser = 0; lesser < hall.count; lesser++) {
            for (int other = lesser + 1; other < hall.count; other++) {
                trial.become(hall);
                trial.changeNumbers(lesser, other);
                int tea = trial.teaAfter(n);
                if (tea > most) {
                    most = tea;
                    best = 10 * lesser + other;
                }
            }
        }
        return best < 0 ? finding(NONE) : best;
    }

    public int sure(int witness, int n) {
        if (!isWitness(witness) || !isWithin(n, 1, FAR)) {
            return finding(BEYOND);
        }
        for (int v = MOST_SURE; v >= 0; v--) {
            trial.become(hall);
            trial.sures[witness] = v;
            if (trial.teaAfter(n) <= hall.tea) {
                return v;
            }
        }
        return finding(NONE);
    }

    public int water(int n, int v) {
        if (!isWithin(n, 1, FAR) || !isWithin(v, 0, MOST_TEA)) {
            return finding(BEYOND);
        }
        for (int w = 0; w <= MOST_WATER; w++) {
            trial.become(hall);
            trial.water = w;
            if (trial.teaAfter(n) >= v) {
                return w;
            }
        }
        return finding(NONE);
    }

    public int kind(int witness, int n) {
        if (!isWitness(witness) || !isWithin(n, 1, FAR)) {
            return finding(BEYOND);
        }
        int best = 0;
        int least = MOST_TEA + 1;
        for (int k = 0; k < KINDS; k++) {
            trial.become(hall);
            trial.kinds[witness] = k;
            int tea = trial.teaAfter(n);
            if (tea < least) {
                least = tea;
                best = k;
            }
        }
        return best;
    }

    public int says(int witness, int n) {
        if (!isWitness(witness) || !isWithin(n, 1, NEAR)) {
            return finding(BEYOND);
        }
        int best = 0;
        int least = MOST_TEA + 1;
        for (int set = 0; set <= ALL_FACTS; set++) {
            trial.become(hall);
            trial.said[witness] = set;
            int tea = trial.teaAfter(n);
            if (tea < least) {
                least = tea;
                best = set;
            }
        }
        return best;
    }

    public int fact(int n) {
        if (!isWithin(n, 1, FAR)) {
            return finding(BEYOND);
        }
        int best = 0;
        int most = -1;
        for (int f = 0; f < FACTS; f++) {
            trial.become(hall);
            trial.truth ^= 1 << f;
            int tea = trial.teaAfter(n);
            if (tea > most) {
                most = tea;
                best = f;
            }
        }
        return best;
    }

    // ---- the text

    public int feed(int bytes, int n) {
        if (!isWithin(n, 1, 4)) {
            return finding(BEYOND);
        }
        if (clerk.length + n > TAPE_BYTES) {
            return finding(FULL);
        }
        for (int i = n - 1; i >= 0; i--) {
            clerk.append((bytes >> (8 * i)) & 255);
        }
        return clerk.length;
    }

    public int wipe() {
        int had = clerk.length;
        clerk.length = 0;
        return had;
    }

    public int inquest() {
        trial.become(hall);
        int items = clerk.takeDown(trial);
        clerk.length = 0;
        if (items >= 0) {
            hall.become(trial);
        }
        return items;
    }

    // ---- sheets

    public int sheet(int s, int bits, int n) {
        if (!isSheet(s) || !(bits == 0 || bits == 8 || bits == 16 || bits == 64)) {
            return finding(BEYOND);
        }
        if (n < 0) {
            return finding(SIZE);
        }
        if (n > MOST_NUMBERS) {
            return finding(BEYOND);
        }
        sheets[s].layOut(bits, n);
        return sheets[s].length;
    }

    public long write(int s, int i, long v) {
        if (!isSheet(s)) {
            return finding(BEYOND);
        }
        Sheet sheet = sheets[s];
        if (sheet.isMissing()) {
            return finding(MISSING);
        }
        if (!isWithin(i, 0, sheet.length - 1)) {
            return finding(BEYOND);
        }
        long was = sheet.numbers[i];
        sheet.numbers[i] = sheet.lowestBits(v);
        return was;
    }

    public int copy(int s, int from, int t, int to, int n) {
        if (!isSheet(s) || !isSheet(t)) {
            return finding(BEYOND);
        }
        Sheet source = sheets[s];
        Sheet target = sheets[t];
        if (source.isMissing() || target.isMissing()) {
            return finding(MISSING);
        }
        if (source.bits != target.bits) {
            return finding(OTHER_KIND);
        }
        if (!source.hasStretch(from, n) || !target.hasStretch(to, n)) {
            return finding(BEYOND);
        }
        System.arraycopy(source.numbers, from, target.numbers, to, n);
        return n;
    }

    public int lays(int s) {
        if (!isSheet(s)) {
            return finding(BEYOND);
        }
        Sheet sheet = sheets[s];
        if (sheet.isMissing()) {
            return finding(MISSING);
        }
        int came = 0;
        for (int i = 0; i < sheet.length && i < hall.count; i++) {
            long v = sheet.numbers[i];
            if (v >= 0 && v <= MOST_SURE) {
                hall.sures[i] = (int) v;
                came++;
            }
        }
        return came;
    }

    public int book(int s) {
        if (!isSheet(s)) {
            return finding(BEYOND);
        }
        Sheet sheet = sheets[s];
        if (sheet.isMissing()) {
            return finding(MISSING);
        }
        trial.become(hall);
        for (int i = 0; i < sheet.length; i++) {
            sheet.numbers[i] = trial.heat;
            trial.passMinute();
        }
        return sheet.length;
    }

    public int read(int s, int witness) {
        if (!isSheet(s)) {
            return finding(BEYOND);
        }
        Sheet sheet = sheets[s];
        if (sheet.isMissing()) {
            return finding(MISSING);
        }
        if (!isWitness(witness)) {
            return finding(BEYOND);
        }
        if (sheet.length > MOST_READ) {
            return finding(SIZE);
        }
        int pairs = 0;
        for (int k = 0; k < KINDS; k++) {
            for (int set = 0; set <= ALL_FACTS; set++) {
                trial.become(hall);
                trial.kinds[witness] = k;
                trial.known[witness] = set;
                if (trial.goesBy(sheet)) {
                    pairs++;
                }
            }
        }
        return pairs;
    }

    // ---- images

    public int image() {
        kept.become(hall);
        isKept = true;
        return 1;
    }

    public int undo() {
        if (!isKept) {
            return finding(NONE);
        }
        hall.become(kept);
        return hall.count;
    }

    public int tear() {
        int was = isKept ? 1 : 0;
        isKept = false;
        return was;
    }

    public int count(int what) {
        switch (what) {
            case 0: return hall.count;
            case 1: return clerk.length;
            case 2: return hall.allLies();
            case 3: return hall.allSure();
            default: return finding(BEYOND);
        }
    }

    public int status(int which) {
        if (which == -1) {
            int all = 0;
            for (int f = 0; f < FINDINGS; f++) {
                all += found[f];
            }
            return all;
        }
        if (which < 0 || which >= FINDINGS) {
            return finding(BEYOND);
        }
        return found[which];
    }

    private int finding(int which) {
        if (which >= 0 && which < FINDINGS) {
            found[which]++;
        }
        return FIRST_FINDING - which;
    }

    private boolean isWitness(int witness) {
        return witness >= 0 && witness < hall.count;
    }

    private static boolean isWithin(int v, int least, int most) {
        return v >= least && v <= most;
    }

    private static boolean isFact(int fact) {
        return fact >= 0 && fact < FACTS;
    }

    private static boolean isKind(int kind) {
        return kind >= 0 && kind < KINDS;
    }

    private static boolean isSheet(int s) {
        return s >= 0 && s < SHEETS;
    }

    private static boolean isKettleValue(int what, int v) {
        switch (what) {
            case 0: return isWithin(v, 0, MOST_HEAT);
            case 1: return isWithin(v, 0, MOST_WATER);
            case 2: return isWithin(v, 1, MOST_HEAT);
            default: return false;
        }
    }

    private static boolean isOfKind(int kind, int wanted) {
        int k = kind;
        for (int level = 0; level < LEVELS && k != wanted && k >= 0 && k < KINDS; level++) {
            k = KIND_ABOVE[k];
        }
        return k == wanted;
    }

    private static boolean isIn(int set, int fact) {
        return ((set >> fact) & 1) == 1;
    }

    /** All that the document's section 1 tells but the tape: what an image keeps and a trial may spoil. */
    private static final class Hall {
        int truth = 0;
        int heat = 0;
        int water = 40;
        int boilsAt = 20;
        int tea = 0;
        int minute = 0;
        int count = 0;
        final int[] kinds = new int[MOST_WITNESSES];
        final int[] known = new int[MOST_WITNESSES];
        final int[] said = new int[MOST_WITNESSES];
        final int[] sures = new int[MOST_WITNESSES];

        void become(Hall other) {
            truth = other.truth;
            heat = other.heat;
            water = other.water;
            boilsAt = other.boilsAt;
            tea = other.tea;
            minute = other.minute;
            count = other.count;
            for (int w = 0; w < count && w < MOST_WITNESSES; w++) {
                kinds[w] = other.kinds[w];
                known[w] = other.known[w];
                said[w] = other.said[w];
                sures[w] = other.sures[w];
            }
        }

        /** The caller has seen that there is room. */
        int callWitness(int kind) {
            int w = count;
            kinds[w] = kind;
            known[w] = 0;
            said[w] = 0;
            sures[w] = 3;
            count++;
            return w;
        }

        void changeNumbers(int a, int b) {
            exchange(kinds, a, b);
            exchange(known, a, b);
            exchange(said, a, b);
            exchange(sures, a, b);
        }

        private static void exchange(int[] row, int a, int b) {
            int first = row[a];
            row[a] = row[b];
            row[b] = first;
        }

        int lieSet(int w) {
            return known[w] & (said[w] ^ truth);
        }

        int luckySet(int w) {
            return ALL_FACTS & ~known[w] & ~(said[w] ^ truth);
        }

        int wrongSet(int w) {
            return ALL_FACTS & ~known[w] & (said[w] ^ truth);
        }

        int doubtOf(int w) {
            int kind = kinds[w];
            return isKind(kind) ? DOUBT_OF_KIND[kind] : 0;
        }

        int allLies() {
            int all = 0;
            for (int w = 0; w < count; w++) {
                all += Integer.bitCount(lieSet(w));
            }
            return all;
        }

        int allSure() {
            int all = 0;
            for (int w = 0; w < count; w++) {
                all += sures[w];
            }
            return all;
        }

        int heatBy(int w, int fact) {
            switch (kinds[w]) {
                case PLUMBER: return plumberHeat(w, fact);
                case WIFE: return wifeHeat(w, fact);
                case CHILD: return -sures[w];
                case EXPERT: return plumberHeat(w, fact) / 2 + (isIn(wrongSet(w), fact) ? 1 : 0);
                case NURSE: return heat > 15 ? 0 : wifeHeat(w, fact);
                default: return witnessHeat(w, fact);
            }
        }

        private int witnessHeat(int w, int fact) {
            if (isIn(lieSet(w), fact)) {
                return 1 + sures[w];
            }
            return isIn(luckySet(w), fact) ? sures[w] / 2 : 0;
        }

        private int plumberHeat(int w, int fact) {
            boolean lidFlies = fact <= 3 && isIn(lieSet(w), fact);
            return witnessHeat(w, fact) + (lidFlies ? 5 : 0);
        }

        private int wifeHeat(int w, int fact) {
            return witnessHeat(w, fact) + (anotherPlumberLies(w, fact) ? 1 : 0);
        }

        private boolean anotherPlumberLies(int w, int fact) {
            for (int other = 0; other < count; other++) {
                if (other != w && isIn(lieSet(other), fact) && isOfKind(kinds[other], PLUMBER)) {
                    return true;
                }
            }
            return false;
        }

        /** Whether the kettle boiled at it. */
        boolean hearAnswer(int w, int fact) {
            heat = Math.max(0, Math.min(MOST_HEAT, heat + heatBy(w, fact)));
            boolean boiled = heat >= boilsAt && water >= 4;
            if (boiled) {
                tea = Math.min(MOST_TEA, tea + 2);
                water -= 4;
                heat /= 2;
                sures[w] = Math.max(0, sures[w] - doubtOf(w));
            }
            if (learnsBy(w, fact, boiled)) {
                known[w] |= 1 << fact;
            }
            return boiled;
        }

        /** What one knew already stays known, so only what is new is told here. */
        private boolean learnsBy(int w, int fact, boolean boiled) {
            switch (kinds[w]) {
                case WIFE:
                case NURSE: return boiled;
                case EXPERT: return isIn(luckySet(w), fact);
                default: return false;
            }
        }

        int whoseTurn() {
            return count > 0 ? minute % count : 0;
        }

        int factAsked() {
            return count > 0 ? minute / count % FACTS : 0;
        }

        /** Whether the kettle boiled in it. */
        boolean passMinute() {
            boolean boiled = false;
            if (count > 0) {
                boiled = hearAnswer(whoseTurn(), factAsked());
            } else {
                heat = Math.max(0, heat - 1);
            }
            minute++;
            return boiled;
        }

        int teaAfter(int n) {
            for (int i = 0; i < n; i++) {
                passMinute();
            }
            return tea;
        }

        boolean goesBy(Sheet sheet) {
            for (int i = 0; i < sheet.length; i++) {
                if (heat != sheet.numbers[i]) {
                    return false;
                }
                passMinute();
            }
            return true;
        }
    }

    /** A row of numbers, held as longs that are cut to its bits; without bits it is missing. */
    private static final class Sheet {
        int bits = 0;
        int length = 0;
        final long[] numbers = new long[MOST_NUMBERS];

        void layOut(int newBits, int n) {
            bits = newBits;
            length = newBits == 0 ? 0 : n;
            for (int i = 0; i < MOST_NUMBERS; i++) {
                numbers[i] = 0;
            }
        }

        boolean isMissing() {
            return bits == 0;
        }

        long lowestBits(long v) {
            return bits == 8 ? (byte) v : bits == 16 ? (short) v : v;
        }

        /** Compared by a difference, as a sum might wrap around. */
        boolean hasStretch(int from, int n) {
            return from >= 0 && n >= 0 && n <= length && from <= length - n;
        }
    }

    /** The tape and the token at which the clerk has come in it; a fault is always at that token's first byte. */
    private static final class Clerk {
        private static final int END = 0;
        private static final int WORD = 1;
        private static final int NUMBER = 2;
        private static final int SIGN = 3;
        private static final int NO_TOKEN = 4;
        private static final int TOO_GREAT = 1000;
        private static final int MOST_LISTED = 4;

        final int[] tape = new int[TAPE_BYTES];
        int length = 0;
        private int token = END;
        private int start = 0;
        private int end = 0;
        private int value = 0;
        private int listed = 0;

        /** The caller has seen that there is room. */
        void append(int oneByte) {
            tape[length] = oneByte;
            length++;
        }

        /** How many items came to the hall, or -1 less the place of the fault (the hall is spoilt then). */
        int takeDown(Hall hall) {
            end = 0;
            token = SIGN;
            int items = 0;
            while (token == SIGN && items < TAPE_BYTES) {
                nextToken();
                if (!takeItem(hall)) {
                    return -1 - start;
                }
                items++;
            }
            return token == END ? items : -1 - start;
        }

        private boolean takeItem(Hall hall) {
            int kind = kindNamed();
            if (kind >= 0) {
                return takeWitness(hall, kind);
            }
            if (isWord("true")) {
                return takeTruth(hall, true);
            }
            if (isWord("false")) {
                return takeTruth(hall, false);
            }
            return isWord("water") && takeWater(hall);
        }

        private boolean takeWitness(Hall hall, int kind) {
            if (hall.count >= MOST_WITNESSES) {
                return false;
            }
            int w = hall.callWitness(kind);
            nextToken();
            if (isWord("sure")) {
                nextToken();
                if (!isNumberUpTo(MOST_SURE)) {
                    return false;
                }
                hall.sures[w] = value;
                nextToken();
            }
            if (isWord("knows")) {
                if (!takeFacts()) {
                    return false;
                }
                hall.known[w] = listed;
            }
            if (isWord("says")) {
                if (!takeFacts()) {
                    return false;
                }
                hall.said[w] = listed;
            }
            return true;
        }

        private boolean takeTruth(Hall hall, boolean isTrue) {
            nextToken();
            if (!isNumberUpTo(FACTS - 1)) {
                return false;
            }
            int bit = 1 << value;
            hall.truth = isTrue ? hall.truth | bit : hall.truth & ~bit;
            nextToken();
            return true;
        }

        private boolean takeWater(Hall hall) {
            nextToken();
            if (!isNumberUpTo(MOST_WATER)) {
                return false;
            }
            hall.water = value;
            nextToken();
            return true;
        }

        /** A fifth number or a wrong one is left as the token, since no number may stand behind the facts. */
        private boolean takeFacts() {
            listed = 0;
            int facts = 0;
            nextToken();
            while (facts < MOST_LISTED && isNumberUpTo(FACTS - 1)) {
                listed |= 1 << value;
                facts++;
                nextToken();
            }
            return facts > 0;
        }

        private boolean isNumberUpTo(int most) {
            return token == NUMBER && value <= most;
        }

        private int kindNamed() {
            for (int k = 0; k < KINDS; k++) {
                if (isWord(nameOf(k))) {
                    return k;
                }
            }
            return -1;
        }

        private static String nameOf(int kind) {
            switch (kind) {
                case PLUMBER: return "plumber";
                case WIFE: return "wife";
                case CHILD: return "child";
                case EXPERT: return "expert";
                case NURSE: return "nurse";
                default: return "witness";
            }
        }

        private boolean isWord(String word) {
            if (token != WORD || end - start != word.length()) {
                return false;
            }
            for (int i = 0; i < word.length(); i++) {
                if (tape[start + i] != word.charAt(i)) {
                    return false;
                }
            }
            return true;
        }

        private void nextToken() {
            start = end;
            while (start < length && tape[start] == ' ') {
                start++;
            }
            int first = start < length ? tape[start] : -1;
            if (first < 0) {
                token = END;
                end = start;
            } else if (first >= 'a' && first <= 'z') {
                token = WORD;
                end = endOfRun('a', 'z');
            } else if (first >= '0' && first <= '9') {
                token = NUMBER;
                end = endOfRun('0', '9');
                value = numberThere();
            } else {
                token = first == ';' ? SIGN : NO_TOKEN;
                end = start + 1;
            }
        }

        private int endOfRun(char least, char most) {
            int place = start;
            while (place < length && tape[place] >= least && tape[place] <= most) {
                place++;
            }
            return place;
        }

        /** Held to what no number may be, as a long row of digits would wrap around. */
        private int numberThere() {
            int number = 0;
            for (int place = start; place < end; place++) {
                number = number > 99 ? TOO_GREAT : 10 * number + tape[place] - '0';
            }
            return number;
        }
    }
}

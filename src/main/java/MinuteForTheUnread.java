/**
 * A council that reads a list of citizens, keeps silence for all whom it has left out, and does its
 * business in what time is left. The words in capitals are those of the document (../shared/DOC.md).
 *
 * <p>Every row is made in a constructor and used again: no call makes an object.
 */
public final class MinuteForTheUnread {
    public static final int NONE = -1, BAD = -2, STATE = -3, FULL = -4;
    public static final long NO = -4611686018427387904L;

    private static final int MISSING = -11, OUTSIDE = -12, UNLIKE = -13, TOO_SMALL = -14;
    private static final int LAST_SITTING = 999, LONGEST_SITTING = 600, LONGEST_ITEM = 999;
    private static final int HIGHEST_NUMBER = 9, HIGHEST_BRIBE = 99, HIGHEST_BYTE = 255;
    private static final int MOST_MINUTES_ASKED = 999, MOST_SEEDS = 20;
    private static final int SITTINGS_AHEAD = 40;

    private final Texts texts;
    private final Reader reader;
    private final Council council;
    private final Council thought;
    private final Council kept;
    private boolean imageIsKept;
    private final Orders orders;
    private final Sheets sheets;

    public MinuteForTheUnread() {
        texts = new Texts();
        reader = new Reader(texts);
        council = new Council(texts);
        thought = new Council(texts);
        kept = new Council(texts);
        imageIsKept = false;
        orders = new Orders();
        sheets = new Sheets();
    }

    // ---- citizens, business

    public int set(int what, int of, int v) {
        int was = what >= 0 && what <= 3 ? told(of, what) : BAD;
        if (was == BAD || v < 0 || v > highest(what)) {
            return BAD;
        }
        switch (what) {
            case 0:
                council.sitting = v;
                break;
            case 1:
                council.length = v;
                break;
            case 2:
                council.putNumber(of, v);
                break;
            default:
                council.putBribe(of, v);
                break;
        }
        return was;
    }

    private static int highest(int what) {
        switch (what) {
            case 0:
                return LAST_SITTING;
            case 1:
                return LONGEST_SITTING;
            case 2:
                return HIGHEST_NUMBER;
            default:
                return HIGHEST_BRIBE;
        }
    }

    public int citizen(int kind, int number) {
        if (!Kinds.isOne(kind) || number < 0 || number > HIGHEST_NUMBER) {
            return BAD;
        }
        return council.addCitizen(kind, number);
    }

    public int business(int minutes) {
        if (minutes < 1 || minutes > LONGEST_ITEM) {
            return BAD;
        }
        return council.addItem(minutes);
    }

    public int told(int of, int what) {
        if (what == 0) {
            return council.sitting;
        }
        if (what == 1) {
            return council.length;
        }
        if (what >= 2 && what <= 7) {
            return council.hasCitizen(of) ? toldOfCitizen(of, what) : BAD;
        }
        if (what >= 8 && what <= 10) {
            return council.hasItem(of) ? toldOfItem(of, what) : BAD;
        }
        return BAD;
    }

    private int toldOfCitizen(int citizen, int what) {
        switch (what) {
            case 2:
                return council.numberOf(citizen);
            case 3:
                return council.bribeOf(citizen);
            case 4:
                return council.kindOf(citizen);
            case 5:
                return council.isRead(citizen, council.listed()) ? 1 : 0;
            case 6:
                return council.silenceOf(citizen, council.listed());
            default:
                return council.timeOf(citizen, council.listed());
        }
    }

    private int toldOfItem(int item, int what) {
        switch (what) {
            case 8:
                return council.takesOf(item);
            case 9:
                return council.soFarOf(item);
            default:
                return council.doneAt(item);
        }
    }

    // ---- texts

    public int feed(int letter) {
        if (letter < 0 || letter > HIGHEST_BYTE) {
            return BAD;
        }
        return reader.addByte(letter);
    }

    public int text() {
        return texts.isFull() ? FULL : reader.readTape();
    }

    public int force(int text) {
        if (!texts.hasText(text)) {
            return BAD;
        }
        int was = council.rule;
        council.rule = text;
        return was;
    }

    // ---- sittings

    public int list(int what) {
        int list = council.listed();
        switch (what) {
            case 0:
                return list;
            case 1:
                return Integer.bitCount(list);
            case 2:
                return council.spentOn(~list, list);
            case 3:
                return council.spentOn(list, list);
            case 4:
                return council.minutesLeft();
            default:
                return BAD;
        }
    }

    public int by(int some) {
        return (some & ~council.everyone()) == 0 ? council.spentBy(some) : BAD;
    }

    public int sit() {
        if (council.sitting >= LAST_SITTING) {
            return STATE;
        }
        int doneBefore = council.itemsDone();
        council.hold();
        return council.itemsDone() - doneBefore;
    }

    public int run(int n, int what) {
        boolean ofAnItem = council.hasItem(what - 10);
        if (n < 0 || n > SITTINGS_AHEAD || what != 0 && what != 1 && !ofAnItem) {
            return BAD;
        }
        thought.become(council);
        int leftOver = 0;
        for (int i = 0; i < n; i++) {
            leftOver += thought.hold();
        }
        if (ofAnItem) {
            return thought.doneAt(what - 10);
        }
        return what == 0 ? thought.itemsDone() : leftOver;
    }

    // ---- what would be best

    public int shortest(int what) {
        if (what != 0 && what != 1) {
            return BAD;
        }
        int everyone = council.everyone();
        int best = 0;
        int least = council.spentBy(0);
        for (int some = 1; some <= everyone; some++) {
            int spent = council.spentBy(some);
            if (spent < least) {
                best = some;
                least = spent;
            }
        }
        return what == 0 ? best : least;
    }

    public int fewest(int k) {
        if (k < 0 || k > MOST_MINUTES_ASKED) {
            return BAD;
        }
        int everyone = council.everyone();
        int best = NONE;
        int most = -1;
        for (int some = 0; some <= everyone; some++) {
            int names = Integer.bitCount(some);
            if (names > most && council.spentBy(some) <= k) {
                best = some;
                most = names;
            }
        }
        return best;
    }

    public int soonest(int of, int what) {
        if (!council.hasItem(of) || what != 0 && what != 1) {
            return BAD;
        }
        thought.become(council);
        int soonest = thought.doneWithin(SITTINGS_AHEAD, of);
        int who = NONE;
        for (int i = 0; i < council.citizens; i++) {
            thought.become(council);
            thought.putBribe(i, HIGHEST_BRIBE);
            int then = thought.doneWithin(SITTINGS_AHEAD, of);
            if (then != NONE && (soonest == NONE || then < soonest)) {
                soonest = then;
                who = i;
            }
        }
        return what == 0 ? who : soonest;
    }

    public int bribe(int citizen) {
        if (!council.hasCitizen(citizen)) {
            return BAD;
        }
        int ahead = council.listed();
        thought.become(council);
        for (int bribe = 0; bribe <= HIGHEST_BRIBE; bribe++) {
            thought.putBribe(citizen, bribe);
            if (thought.isRead(citizen, ahead)) {
                return bribe;
            }
        }
        return NONE;
    }

    public int order(int what) {
        if (what != 0 && what != 1) {
            return BAD;
        }
        thought.become(council);
        orders.weigh(thought);
        return what == 0 ? orders.bestDigits : orders.leastSum;
    }

    public int turned(int what) {
        if (what != 0 && what != 1) {
            return BAD;
        }
        int list = council.listed();
        int who = NONE;
        int least = NONE;
        for (int i = 0; i < council.citizens; i++) {
            int spent = council.spentBy(list ^ (1 << i));
            if (who == NONE || spent < least) {
                who = i;
                least = spent;
            }
        }
        return what == 0 ? who : least;
    }

    // ---- what was told

    public int tells(int sheet, int what) {
        if (!sheets.hasPlace(sheet) || !canBeAsked(what)) {
            return BAD;
        }
        if (sheets.isMissing(sheet)) {
            return MISSING;
        }
        if (sheets.sizeOf(sheet) != 1) {
            return BAD;
        }
        int minutes = sheets.valueAt(sheet, 0);
        if (what < 4) {
            return ways(minutes, what);
        }
        return what == 4 ? textsBy(minutes) : ofOneBy(minutes, what / 10, what % 10);
    }

    private boolean canBeAsked(int what) {
        boolean ofAll = what >= 0 && what <= 4;
        boolean ofOne = what >= 10 && what <= 49 && council.hasCitizen(what % 10);
        return ofAll || ofOne;
    }

    private int ways(int minutes, int what) {
        int everyone = council.everyone();
        int ways = 0;
        int least = NONE;
        int inAll = everyone;
        int inSome = 0;
        for (int some = 0; some <= everyone; some++) {
            if (council.spentBy(some) == minutes) {
                least = ways == 0 ? some : least;
                ways++;
                inAll &= some;
                inSome |= some;
            }
        }
        switch (what) {
            case 0:
                return ways;
            case 1:
                return least;
            case 2:
                return ways == 0 ? 0 : inAll;
            default:
                return ways == 0 ? 0 : everyone & ~inSome;
        }
    }

    private int textsBy(int minutes) {
        thought.become(council);
        int bits = 0;
        for (int text = 0; text < texts.many; text++) {
            thought.rule = text;
            if (thought.spentByList() == minutes) {
                bits |= 1 << text;
            }
        }
        return bits;
    }

    private int ofOneBy(int minutes, int tens, int citizen) {
        thought.become(council);
        switch (tens) {
            case 1:
                return kindsBy(minutes, citizen);
            case 2:
                return numbersBy(minutes, citizen);
            case 3:
                return bribesBy(minutes, citizen, false);
            default:
                return bribesBy(minutes, citizen, true);
        }
    }

    private int kindsBy(int minutes, int citizen) {
        int bits = 0;
        for (int kind = Kinds.CITIZEN; kind <= Kinds.DEAD; kind++) {
            thought.putKind(citizen, kind);
            if (thought.spentByList() == minutes) {
                bits |= 1 << kind;
            }
        }
        return bits;
    }

    private int numbersBy(int minutes, int citizen) {
        int bits = 0;
        for (int number = 0; number <= HIGHEST_NUMBER; number++) {
            thought.putNumber(citizen, number);
            if (thought.spentByList() == minutes) {
                bits |= 1 << number;
            }
        }
        return bits;
    }

    private int bribesBy(int minutes, int citizen, boolean leastIsAsked) {
        int many = 0;
        int least = NONE;
        for (int bribe = 0; bribe <= HIGHEST_BRIBE; bribe++) {
            thought.putBribe(citizen, bribe);
            if (thought.spentByList() == minutes) {
                least = many == 0 ? bribe : least;
                many++;
            }
        }
        return leastIsAsked ? least : many;
    }

    public int film(int sheet) {
        if (!sheets.hasPlace(sheet)) {
            return BAD;
        }
        int spent = council.spentByList();
        sheets.lay(sheet, Sheets.INTS, 1);
        sheets.store(sheet, 0, spent);
        return spent;
    }

    public int drawn(int seed) {
        thought.become(council);
        thought.drawBribes(seed);
        return Integer.bitCount(thought.listed());
    }

    public long chance(int seed, int m, int part) {
        if (m < 1 || m > MOST_SEEDS || part != 0 && part != 1) {
            return NO;
        }
        thought.become(council);
        int fitting = 0;
        for (int i = 0; i < m; i++) {
            thought.drawBribes(seed + i);
            if (thought.spentByList() <= thought.length) {
                fitting++;
            }
        }
        return inLowestTerms(part == 0 ? fitting : m, fitting, m);
    }

    /** One of some and all, when they are told in lowest terms; 0 of all is told as 0 of 1. */
    private static int inLowestTerms(int one, int some, int all) {
        for (int divisor = all; divisor > 1; divisor--) {
            if (some % divisor == 0 && all % divisor == 0) {
                return one / divisor;
            }
        }
        return one;
    }

    public int image() {
        kept.become(council);
        imageIsKept = true;
        return council.citizens;
    }

    public int back() {
        if (!imageIsKept) {
            return STATE;
        }
        council.become(kept);
        return council.citizens;
    }

    public int count(int what) {
        switch (what) {
            case 0:
                return council.citizens;
            case 1:
                return council.items;
            case 2:
                return council.itemsDone();
            case 3:
                return texts.many;
            case 4:
                return reader.size;
            case 5:
                return council.rule;
            default:
                return BAD;
        }
    }

    // ---- the host

    public int sheet(int sheet, int sort, int n) {
        if (!sheets.hasPlace(sheet)) {
            return BAD;
        }
        if (sort == Sheets.NO_SORT) {
            sheets.lay(sheet, Sheets.NO_SORT, 0);
            return 1;
        }
        if (!Sheets.isSort(sort) || n > Sheets.LONGEST) {
            return BAD;
        }
        if (n < 0) {
            return TOO_SMALL;
        }
        sheets.lay(sheet, sort, n);
        return 1;
    }

    public int cell(int sheet, int i, int v) {
        if (!sheets.hasPlace(sheet)) {
            return BAD;
        }
        if (sheets.isMissing(sheet)) {
            return MISSING;
        }
        if (!sheets.hasItem(sheet, i)) {
            return OUTSIDE;
        }
        sheets.store(sheet, i, v);
        return 1;
    }

    public int copy(int sheet, int i, int other, int j, int n) {
        if (!sheets.hasPlace(sheet) || !sheets.hasPlace(other)) {
            return BAD;
        }
        if (sheets.isMissing(sheet) || sheets.isMissing(other)) {
            return MISSING;
        }
        if (sheets.sortOf(sheet) != sheets.sortOf(other)) {
            return UNLIKE;
        }
        if (!sheets.hasItems(sheet, i, n) || !sheets.hasItems(other, j, n)) {
            return OUTSIDE;
        }
        sheets.move(sheet, i, other, j, n);
        return n;
    }

    public int citizens(int sheet, int sort, int from, int n) {
        if (!sheets.hasPlace(sheet) || !Sheets.isSort(sort) || n < 0 || n > Council.MOST_CITIZENS) {
            return BAD;
        }
        if (sheets.isMissing(sheet)) {
            return MISSING;
        }
        if (sheets.sortOf(sheet) != sort) {
            return UNLIKE;
        }
        int came = 0;
        for (int i = 0; i < n; i++) {
            int place = from + 2 * i;
            if (!sheets.hasItem(sheet, place) || !sheets.hasItem(sheet, place + 1)) {
                return OUTSIDE;
            }
            if (citizen(sheets.valueAt(sheet, place), sheets.valueAt(sheet, place + 1)) >= 0) {
                came++;
            }
        }
        return came;
    }

    public int taken(int citizen, int k) {
        if (!Kinds.isOne(k)) {
            return BAD;
        }
        if (!council.hasCitizen(citizen)) {
            return MISSING;
        }
        return Kinds.isUnder(council.kindOf(citizen), k) ? council.numberOf(citizen) : UNLIKE;
    }

    /** What being of a KIND does to one citizen. */
    private static final class Kinds {
        private static final int CITIZEN = 0, NOBLE = 1, POOR = 2, HEIR = 3, ORPHAN = 4, DEAD = 5;

        private static boolean isOne(int kind) {
            return kind >= CITIZEN && kind <= DEAD;
        }

        /** The KIND that one stands under; a CITIZEN stands under none. */
        private static int above(int kind) {
            switch (kind) {
                case NOBLE:
                case POOR:
                case DEAD:
                    return CITIZEN;
                case HEIR:
                    return NOBLE;
                case ORPHAN:
                    return POOR;
                default:
                    return NONE;
            }
        }

        private static boolean isUnder(int kind, int other) {
            int at = kind;
            for (int i = 0; i <= DEAD && at != NONE && at != other; i++) {
                at = above(at);
            }
            return at == other;
        }

        private static boolean isRead(int kind, boolean yes, int number, int bribe, int sitting) {
            boolean asPoor = yes && bribe > 0;
            switch (kind) {
                case CITIZEN:
                    return yes;
                case NOBLE:
                    return true;
                case POOR:
                    return asPoor;
                case HEIR:
                    return sitting % 10 != number;
                case ORPHAN:
                    return asPoor || bribe >= number * 10;
                default:
                    return false;
            }
        }

        private static int silence(int kind, int v, int number) {
            int ofNoble = 2 * v;
            int ofPoor = v / 2;
            switch (kind) {
                case CITIZEN:
                    return v;
                case NOBLE:
                    return ofNoble;
                case POOR:
                    return ofPoor;
                case HEIR:
                    return ofNoble + number;
                case ORPHAN:
                    return ofPoor + 2;
                default:
                    return 1;
            }
        }

        private static int time(int kind, int v, int number, int sitting) {
            switch (kind) {
                case NOBLE:
                case HEIR:
                    return v + number;
                case ORPHAN:
                    return sitting % 2 == 1 ? 0 : v;
                default:
                    return v;
            }
        }
    }

    /** All that a council has before it; another one of these serves for what is only thought. */
    private static final class Council {
        private static final int MOST_CITIZENS = 8, MOST_ITEMS = 6, FIRST_LENGTH = 60;

        private final Texts texts;
        private final int[] names = new int[Texts.ALL_NAMES];
        private int sitting;
        private int length;
        private int rule;
        private int citizens;
        private final int[] kinds = new int[MOST_CITIZENS];
        private final int[] numbers = new int[MOST_CITIZENS];
        private final int[] bribes = new int[MOST_CITIZENS];
        private int items;
        private final int[] takes = new int[MOST_ITEMS];
        private final int[] soFar = new int[MOST_ITEMS];
        private final int[] doneAt = new int[MOST_ITEMS];

        private Council(Texts texts) {
            this.texts = texts;
            length = FIRST_LENGTH;
        }

        private void become(Council other) {
            sitting = other.sitting;
            length = other.length;
            rule = other.rule;
            citizens = other.citizens;
            items = other.items;
            System.arraycopy(other.kinds, 0, kinds, 0, MOST_CITIZENS);
            System.arraycopy(other.numbers, 0, numbers, 0, MOST_CITIZENS);
            System.arraycopy(other.bribes, 0, bribes, 0, MOST_CITIZENS);
            System.arraycopy(other.takes, 0, takes, 0, MOST_ITEMS);
            System.arraycopy(other.soFar, 0, soFar, 0, MOST_ITEMS);
            System.arraycopy(other.doneAt, 0, doneAt, 0, MOST_ITEMS);
        }

        private boolean hasCitizen(int i) {
            return i >= 0 && i < citizens && i < MOST_CITIZENS;
        }

        private boolean hasItem(int i) {
            return i >= 0 && i < items && i < MOST_ITEMS;
        }

        private int everyone() {
            return (1 << citizens) - 1;
        }

        private int addCitizen(int kind, int number) {
            if (citizens < 0 || citizens >= MOST_CITIZENS) {
                return FULL;
            }
            kinds[citizens] = kind;
            numbers[citizens] = number;
            bribes[citizens] = 0;
            return citizens++;
        }

        private int addItem(int minutes) {
            if (items < 0 || items >= MOST_ITEMS) {
                return FULL;
            }
            takes[items] = minutes;
            soFar[items] = 0;
            doneAt[items] = NONE;
            return items++;
        }

        private int kindOf(int i) {
            return hasCitizen(i) ? kinds[i] : NONE;
        }

        private int numberOf(int i) {
            return hasCitizen(i) ? numbers[i] : NONE;
        }

        private int bribeOf(int i) {
            return hasCitizen(i) ? bribes[i] : NONE;
        }

        private void putKind(int i, int kind) {
            if (hasCitizen(i)) {
                kinds[i] = kind;
            }
        }

        private void putNumber(int i, int number) {
            if (hasCitizen(i)) {
                numbers[i] = number;
            }
        }

        private void putBribe(int i, int bribe) {
            if (hasCitizen(i)) {
                bribes[i] = bribe;
            }
        }

        private int takesOf(int i) {
            return hasItem(i) ? takes[i] : NONE;
        }

        private int soFarOf(int i) {
            return hasItem(i) ? soFar[i] : NONE;
        }

        private int doneAt(int i) {
            return hasItem(i) ? doneAt[i] : NONE;
        }

        private int itemsDone() {
            int done = 0;
            for (int i = 0; i < items; i++) {
                done += doneAt(i) == NONE ? 0 : 1;
            }
            return done;
        }

        private void drawBribes(int seed) {
            int z = seed;
            for (int i = 0; i < citizens; i++) {
                z = z * 1103515245 + 12345;
                putBribe(i, (z >>> 9) % 100);
            }
        }

        /** A list stands for who counts as READ: another than THE LIST, where one is asked for. */
        private void lookAt(int i, int list) {
            if (hasCitizen(i)) {
                names[Texts.NUMBER] = numbers[i];
                names[Texts.BRIBE] = bribes[i];
                names[Texts.SITTING] = sitting;
                names[Texts.READ] = Integer.bitCount(list & ((1 << i) - 1));
                names[Texts.RANK] = i;
                names[Texts.ASKED] = citizens;
            }
        }

        private boolean isRead(int i, int list) {
            lookAt(i, list);
            boolean yes = texts.value(rule, Texts.READS, names) != 0;
            return Kinds.isRead(kindOf(i), yes, numberOf(i), bribeOf(i), sitting);
        }

        private int silenceOf(int i, int list) {
            lookAt(i, list);
            return Kinds.silence(kindOf(i), texts.value(rule, Texts.STILLS, names), numberOf(i));
        }

        private int timeOf(int i, int list) {
            lookAt(i, list);
            return Kinds.time(kindOf(i), texts.value(rule, Texts.NAMES, names), numberOf(i), sitting);
        }

        /** THE LIST: who is READ hangs on those ahead alone, so one pass finds all. */
        private int listed() {
            int list = 0;
            for (int i = 0; i < citizens; i++) {
                if (isRead(i, list)) {
                    list |= 1 << i;
                }
            }
            return list;
        }

        /** The minutes that go for some citizens: TIME for those of a list, SILENCE for the others. */
        private int spentOn(int some, int list) {
            int sum = 0;
            for (int i = 0; i < citizens; i++) {
                if ((some >> i & 1) == 1) {
                    sum += (list >> i & 1) == 1 ? timeOf(i, list) : silenceOf(i, list);
                }
            }
            return sum;
        }

        private int spentBy(int list) {
            return spentOn(everyone(), list);
        }

        private int spentByList() {
            return spentOn(everyone(), listed());
        }

        private int minutesLeft() {
            return Math.max(0, length - spentOn(everyone(), listed()));
        }

        /** One SITTING; what it answers are the minutes that no business took. */
        private int hold() {
            int left = minutesLeft();
            for (int i = 0; i < items; i++) {
                left -= goOnWith(i, left);
            }
            sitting++;
            return left;
        }

        private int goOnWith(int i, int left) {
            if (!hasItem(i) || doneAt[i] != NONE) {
                return 0;
            }
            int minutes = Math.min(left, takes[i] - soFar[i]);
            soFar[i] += minutes;
            if (soFar[i] >= takes[i]) {
                doneAt[i] = sitting;
            }
            return minutes;
        }

        /** Holds SITTINGS till an item is DONE, n at most: at which it was; NONE. */
        private int doneWithin(int n, int item) {
            for (int i = 0; i < n && doneAt(item) == NONE; i++) {
                hold();
            }
            return doneAt(item);
        }
    }

    /** The orders of business that isn't DONE, weighed against each other. */
    private static final class Orders {
        private final int[] rests = new int[Council.MOST_ITEMS];
        private final int[] minutesTill = new int[SITTINGS_AHEAD];
        private int firstSitting;
        private int bestDigits;
        private int leastSum;

        /**
         * Goes through a council's next SITTINGS. No order changes how long each leaves for business,
         * so the minutes are told once, ahead of all orders.
         */
        private void weigh(Council thought) {
            int waiting = 0;
            for (int i = 0; i < rests.length; i++) {
                rests[i] = thought.takesOf(i) - thought.soFarOf(i);
                if (rests[i] > 0) {
                    waiting |= 1 << i;
                }
            }
            firstSitting = thought.sitting;
            int minutes = 0;
            for (int i = 0; i < minutesTill.length; i++) {
                minutes += thought.minutesLeft();
                minutesTill[i] = minutes;
                thought.sitting++;
            }
            bestDigits = 0;
            leastSum = Integer.MAX_VALUE;
            tryAll(0, waiting, 0, 0, 0);
        }

        private void tryAll(int placed, int waiting, int minutes, int sum, int digits) {
            if (waiting == 0 || placed >= rests.length) {
                if (sum < leastSum) {
                    leastSum = sum;
                    bestDigits = digits;
                }
                return;
            }
            for (int i = 0; i < rests.length; i++) {
                if ((waiting >> i & 1) == 1) {
                    int then = minutes + rests[i];
                    tryAll(placed + 1, waiting & ~(1 << i), then, sum + sittingAfter(then), digits * 10 + i + 1);
                }
            }
        }

        private int sittingAfter(int minutes) {
            int i = 0;
            while (i < minutesTill.length && minutesTill[i] < minutes) {
                i++;
            }
            return firstSitting + i;
        }
    }

    /**
     * The TEXTS, each in the order in which it is worked out (what an operator works on stands ahead of
     * it), so that nothing has to be read anew. A cell of 0 or more is a number, -1 - n is the name of row
     * n; below these stand the operators on one, and below those the operators on two.
     */
    private static final class Texts {
        private static final int MOST = 6, LONGEST = 160, MOST_MINUTES = 60;
        private static final int READS = 0, STILLS = 1, NAMES = 2, PARTS = 3;
        private static final int NUMBER = 0, BRIBE = 1, SITTING = 2, READ = 3, RANK = 4, ASKED = 5, ALL_NAMES = 6;
        private static final int NOT = -10, NEGATE = -11;
        private static final int OR = -20, AND = -21, LESS = -22, EQUAL = -23;
        private static final int ADD = -24, SUBTRACT = -25, MULTIPLY = -26;

        private int many;
        private int used;
        private final int[] cells = new int[MOST * LONGEST];
        private final int[] ends = new int[MOST * PARTS];
        private final int[] stack = new int[LONGEST];

        private Texts() {
            begin();
            put(cellOfName(BRIBE));
            endPart(READS);
            put(3);
            endPart(STILLS);
            put(1);
            endPart(NAMES);
            keep();
        }

        private static int cellOfName(int name) {
            return -1 - name;
        }

        private boolean isFull() {
            return many >= MOST;
        }

        private boolean hasText(int text) {
            return text >= 0 && text < many && text < MOST;
        }

        private void begin() {
            used = 0;
        }

        private void put(int cell) {
            if (many < MOST && used < LONGEST) {
                cells[many * LONGEST + used] = cell;
                used++;
            }
        }

        private void endPart(int part) {
            if (many < MOST && part >= 0 && part < PARTS) {
                ends[many * PARTS + part] = used;
            }
        }

        private int keep() {
            return many++;
        }

        /** Only minutes have bounds: reads is no more than yes or no, and one below 0 is a yes. */
        private int value(int text, int part, int[] names) {
            if (!hasText(text) || part < READS || part > NAMES) {
                return 0;
            }
            int first = part == READS ? 0 : ends[text * PARTS + part - 1];
            int end = ends[text * PARTS + part];
            int top = 0;
            for (int i = first; i >= 0 && i < end && i < LONGEST; i++) {
                int cell = cells[text * LONGEST + i];
                if (cell > NOT && top < LONGEST) {
                    stack[top] = cell >= 0 ? cell : valueOfName(cell, names);
                    top++;
                } else if (cell == NOT && top >= 1) {
                    stack[top - 1] = stack[top - 1] == 0 ? 1 : 0;
                } else if (cell == NEGATE && top >= 1) {
                    stack[top - 1] = -stack[top - 1];
                } else if (cell <= OR && top >= 2) {
                    top--;
                    stack[top - 1] = ofBoth(cell, stack[top - 1], stack[top]);
                }
            }
            return part == READS ? stack[0] : Math.max(0, Math.min(MOST_MINUTES, stack[0]));
        }

        private static int valueOfName(int cell, int[] names) {
            int name = -1 - cell;
            return name >= 0 && name < names.length ? names[name] : 0;
        }

        private static int ofBoth(int cell, int a, int b) {
            switch (cell) {
                case OR:
                    return a != 0 || b != 0 ? 1 : 0;
                case AND:
                    return a != 0 && b != 0 ? 1 : 0;
                case LESS:
                    return a < b ? 1 : 0;
                case EQUAL:
                    return a == b ? 1 : 0;
                case ADD:
                    return a + b;
                case SUBTRACT:
                    return a - b;
                default:
                    return a * b;
            }
        }
    }

    /**
     * THE TAPE, and who reads a TEXT from it. The token ahead is always looked at before it is passed,
     * so that a reading that stops has the FAULT's place as the token's first byte.
     */
    private static final class Reader {
        private static final int MOST_OPEN = 5, MOST_DIGITS = 4;
        private static final int END = 0, BROKEN = 1, NUMBER = 2;
        // What the tokens of words have more than the words: signs are told by their bytes, below this.
        private static final int WORD = 256;
        private static final int READS = 6, OR = 9, AND = 10, NOT = 11, WORDS = 12;

        private final Texts texts;
        private final int[] tape = new int[Texts.LONGEST];
        private int size;
        private int place;
        private int first;
        private int token;
        private int number;

        private Reader(Texts texts) {
            this.texts = texts;
        }

        private int addByte(int letter) {
            if (size < 0 || size >= tape.length) {
                return FULL;
            }
            tape[size] = letter;
            size++;
            return size;
        }

        private int readTape() {
            texts.begin();
            place = 0;
            passToken();
            boolean whole = true;
            for (int part = 0; part < Texts.PARTS && whole; part++) {
                whole = passed(WORD + READS + part) && readOr(0) && passed(';');
                texts.endPart(part);
            }
            size = 0;
            return whole && token == END ? texts.keep() : -100 - first;
        }

        private boolean passed(int wanted) {
            if (token != wanted) {
                return false;
            }
            passToken();
            return true;
        }

        private boolean readOr(int open) {
            boolean whole = readAnd(open);
            for (int i = 0; i < tape.length && whole && token == WORD + OR; i++) {
                passToken();
                whole = readAnd(open);
                texts.put(Texts.OR);
            }
            return whole;
        }

        private boolean readAnd(int open) {
            boolean whole = readNot(open);
            for (int i = 0; i < tape.length && whole && token == WORD + AND; i++) {
                passToken();
                whole = readNot(open);
                texts.put(Texts.AND);
            }
            return whole;
        }

        private boolean readNot(int open) {
            if (token != WORD + NOT) {
                return readComparison(open);
            }
            if (open >= MOST_OPEN) {
                return false;
            }
            passToken();
            boolean whole = readNot(open + 1);
            texts.put(Texts.NOT);
            return whole;
        }

        private boolean readComparison(int open) {
            boolean whole = readSum(open);
            if (!whole || token != '<' && token != '=') {
                return whole;
            }
            int cell = token == '<' ? Texts.LESS : Texts.EQUAL;
            passToken();
            whole = readSum(open);
            texts.put(cell);
            return whole;
        }

        private boolean readSum(int open) {
            boolean whole = readTerm(open);
            for (int i = 0; i < tape.length && whole && (token == '+' || token == '-'); i++) {
                int cell = token == '+' ? Texts.ADD : Texts.SUBTRACT;
                passToken();
                whole = readTerm(open);
                texts.put(cell);
            }
            return whole;
        }

        private boolean readTerm(int open) {
            boolean whole = readOne(open);
            for (int i = 0; i < tape.length && whole && token == '*'; i++) {
                passToken();
                whole = readOne(open);
                texts.put(Texts.MULTIPLY);
            }
            return whole;
        }

        private boolean readOne(int open) {
            if (token == NUMBER) {
                texts.put(number);
                passToken();
                return true;
            }
            if (token >= WORD && token < WORD + Texts.ALL_NAMES) {
                texts.put(Texts.cellOfName(token - WORD));
                passToken();
                return true;
            }
            if (open >= MOST_OPEN) {
                return false;
            }
            if (passed('(')) {
                return readOr(open + 1) && passed(')');
            }
            boolean whole = passed('-') && readOne(open + 1);
            texts.put(Texts.NEGATE);
            return whole;
        }

        private void passToken() {
            while (place < size && isBlank(tape[place])) {
                place++;
            }
            first = place;
            if (place >= size) {
                token = END;
            } else if (isLetter(tape[place])) {
                token = passWord();
            } else if (isDigit(tape[place])) {
                token = passNumber();
            } else {
                token = isSign(tape[place]) ? tape[place] : BROKEN;
                place++;
            }
        }

        private static boolean isBlank(int letter) {
            return letter == 32 || letter == 10;
        }

        private static boolean isLetter(int letter) {
            return letter >= 'a' && letter <= 'z';
        }

        private static boolean isDigit(int letter) {
            return letter >= '0' && letter <= '9';
        }

        private static boolean isSign(int letter) {
            switch (letter) {
                case '(':
                case ')':
                case ';':
                case '+':
                case '-':
                case '*':
                case '<':
                case '=':
                    return true;
                default:
                    return false;
            }
        }

        private int passNumber() {
            number = 0;
            while (place < size && isDigit(tape[place])) {
                if (place - first < MOST_DIGITS) {
                    number = number * 10 + tape[place] - '0';
                }
                place++;
            }
            return place - first <= MOST_DIGITS ? NUMBER : BROKEN;
        }

        private int passWord() {
            while (place < size && isLetter(tape[place])) {
                place++;
            }
            for (int word = 0; word < WORDS; word++) {
                if (isSpelt(spelling(word))) {
                    return WORD + word;
                }
            }
            return BROKEN;
        }

        private boolean isSpelt(String spelling) {
            boolean like = spelling.length() == place - first;
            for (int i = 0; like && i < spelling.length(); i++) {
                like = tape[first + i] == spelling.charAt(i);
            }
            return like;
        }

        /** NAMES first, by their rows, then KEYS: those that begin a part, by parts, ahead of the others. */
        private static String spelling(int word) {
            switch (word) {
                case Texts.NUMBER:
                    return "number";
                case Texts.BRIBE:
                    return "bribe";
                case Texts.SITTING:
                    return "sitting";
                case Texts.READ:
                    return "read";
                case Texts.RANK:
                    return "rank";
                case Texts.ASKED:
                    return "asked";
                case READS + Texts.READS:
                    return "reads";
                case READS + Texts.STILLS:
                    return "stills";
                case READS + Texts.NAMES:
                    return "names";
                case OR:
                    return "or";
                case AND:
                    return "and";
                default:
                    return "not";
            }
        }
    }

    /** The host's SHEETS, each with room for the longest row. */
    private static final class Sheets {
        private static final int MOST = 4, LONGEST = 40;
        private static final int NO_SORT = -1, BYTES = 0, SHORTS = 1, INTS = 2;

        private final int[] sorts = {NO_SORT, NO_SORT, NO_SORT, NO_SORT};
        private final int[] sizes = new int[MOST];
        private final int[] cells = new int[MOST * LONGEST];

        private static boolean isSort(int sort) {
            return sort >= BYTES && sort <= INTS;
        }

        private boolean hasPlace(int sheet) {
            return sheet >= 0 && sheet < MOST;
        }

        private int sortOf(int sheet) {
            return hasPlace(sheet) ? sorts[sheet] : NO_SORT;
        }

        private int sizeOf(int sheet) {
            return hasPlace(sheet) ? sizes[sheet] : 0;
        }

        private boolean isMissing(int sheet) {
            return sortOf(sheet) == NO_SORT;
        }

        private boolean hasItem(int sheet, int i) {
            return i >= 0 && i < sizeOf(sheet) && i < LONGEST;
        }

        /** Whether n items from one on stand in a sheet; none may also be asked for right behind the last. */
        private boolean hasItems(int sheet, int from, int n) {
            return from >= 0 && n >= 0 && n <= LONGEST && from <= sizeOf(sheet) - n;
        }

        private void lay(int sheet, int sort, int n) {
            if (!hasPlace(sheet) || n < 0 || n > LONGEST) {
                return;
            }
            sorts[sheet] = sort;
            sizes[sheet] = n;
            for (int i = 0; i < n; i++) {
                cells[sheet * LONGEST + i] = 0;
            }
        }

        /** Bytes and shorts are Java's: what is too wide keeps its lowest bits, the highest of them as a sign. */
        private void store(int sheet, int i, int v) {
            if (!hasItem(sheet, i)) {
                return;
            }
            int sort = sortOf(sheet);
            cells[sheet * LONGEST + i] = sort == BYTES ? (byte) v : sort == SHORTS ? (short) v : v;
        }

        private int valueAt(int sheet, int i) {
            return hasItem(sheet, i) ? cells[sheet * LONGEST + i] : 0;
        }

        private void move(int sheet, int i, int other, int j, int n) {
            if (hasItems(sheet, i, n) && hasItems(other, j, n)) {
                System.arraycopy(cells, sheet * LONGEST + i, cells, other * LONGEST + j, n);
            }
        }
    }
}

import java.util.NoSuchElementException;

/** A park in which children bowl hoops round a ring of walks; each hoop is an hour of the day. */
public final class HoopHours {
    public static final int NONE = -1;

    private static final int MOST = 8;
    private static final int MOST_CLAUSES = 60;
    private static final int MOST_OPEN = 6;
    private static final int MOST_BEGUN = 200;
    private static final int MOST_WORKS = 16;
    private static final int MOST_IMAGES = 3;
    private static final int MOST_AHEAD = 400;
    private static final int MOST_DAYS = 200;
    private static final int FULL = 99;
    private static final int OLDEST = 14;
    private static final int SIXTEEN = 16;
    private static final int TAPE_BYTES = 600;
    private static final int FEED_BYTES = 20;
    private static final int LAW_BYTES = 150;
    private static final int WORK_BYTES = 150;
    private static final int SONGS_BYTES = 60;
    private static final int WORKS_FULL = -20;
    private static final int FAULT_BASE = 10;
    /** More than any sum of minutes. */
    private static final int NEVER_SO_MANY = 1000000000;

    private final Tape tape = new Tape();
    private final Park grounds = new Park();
    private final Park readGrounds = new Park();
    private final Law rule = new Law();
    private final Law readRule = new Law();
    private final Songs heard = new Songs();
    private final Songs readHeard = new Songs();
    private final Bowling bowling = new Bowling(grounds, rule);
    private final Steps steps = new Steps(grounds, bowling);
    private final Going going = new Going(grounds, bowling);
    private final Matching matching = new Matching(grounds, bowling);
    private final Guessing guessing = new Guessing(grounds, bowling, heard);
    private final History history = new History();
    private final History[] images = new History[MOST_IMAGES];
    private int imagesKept;
    private int refusedSteps;
    private int noSuchCalls;
    private int illegalCalls;

    public HoopHours() {
        for (int i = 0; i < images.length; i++) {
            images[i] = new History();
        }
    }

    public int feed(int a, int b, int c, int d, int e) {
        if (tape.size + FEED_BYTES > TAPE_BYTES) {
            return NONE;
        }
        tape.push(a);
        tape.push(b);
        tape.push(c);
        tape.push(d);
        tape.push(e);
        return tape.size;
    }

    public int park(int n) throws IllegalArgumentException {
        needText(n, TAPE_BYTES);
        tape.open(n);
        readGrounds.read(tape);
        if (tape.faulty()) {
            return tape.fault - FAULT_BASE;
        }
        grounds.copy(readGrounds);
        rule.clear();
        heard.clear();
        history.clear();
        imagesKept = 0;
        refusedSteps = 0;
        return grounds.hoops;
    }

    public int law(int n) throws IllegalArgumentException {
        needText(n, LAW_BYTES);
        tape.open(n);
        readRule.read(tape);
        if (tape.faulty()) {
            return tape.fault - FAULT_BASE;
        }
        rule.copy(readRule);
        return 1;
    }

    public int work(int n) throws IllegalArgumentException {
        needText(n, WORK_BYTES);
        if (history.works >= MOST_WORKS) {
            tape.open(0);
            return WORKS_FULL;
        }
        tape.open(n);
        steps.read(tape);
        if (tape.faulty()) {
            return tape.fault - FAULT_BASE;
        }
        history.keep();
        steps.start();
        steps.perform(history.now, 0, steps.size, 0);
        refusedSteps = steps.refused;
        return steps.done;
    }

    public int songs(int n) throws IllegalArgumentException {
        needText(n, SONGS_BYTES);
        tape.open(n);
        readHeard.read(tape, grounds.walks);
        if (tape.faulty()) {
            return tape.fault - FAULT_BASE;
        }
        heard.copy(readHeard);
        return heard.lines;
    }

    public int fault() {
        return tape.faultAt;
    }

    public int undo() {
        if (history.works <= 0) {
            return NONE;
        }
        history.takeBack();
        refusedSteps = 0;
        return history.works;
    }

    public int told(int what) throws IllegalArgumentException {
        needIn(what, 0, 12);
        State now = history.now;
        switch (what) {
            case 0: return grounds.walks;
            case 1: return grounds.children;
            case 2: return grounds.hoops;
            case 3: return now.hoop;
            case 4: return now.gate;
            case 5: return now.hourMinutes;
            case 6: return now.day;
            case 7: return now.dayMinutes;
            case 8: return now.rain;
            case 9: return now.fines();
            case 10: return heard.lines;
            case 11: return refusedSteps;
            default: return now.lateHours;
        }
    }

    public int walk(int walk, int what) throws NoSuchElementException, IllegalArgumentException {
        needOne(walk, grounds.walks);
        needIn(what, 0, 1);
        return at(what == 0 ? grounds.lengths : grounds.falls, walk);
    }

    public int child(int child, int what) throws NoSuchElementException, IllegalArgumentException {
        needOne(child, grounds.children);
        needIn(what, 0, 5);
        State now = history.now;
        switch (what) {
            case 0: return at(grounds.paces, child);
            case 1: return at(grounds.ages, child);
            case 2: return at(now.tired, child);
            case 3: return at(now.toffees, child);
            case 4: return at(now.owed, child);
            default: return now.hoopsOf(child);
        }
    }

    public int hoop(int hoop, int what) throws NoSuchElementException, IllegalArgumentException {
        needOne(hoop, grounds.hoops);
        needIn(what, 0, 2);
        State now = history.now;
        switch (what) {
            case 0: return at(grounds.weights, hoop);
            case 1: return at(now.owners, hoop);
            default: return at(now.lasted, hoop);
        }
    }

    public int minutes(int walk, int child, int hoop) throws NoSuchElementException {
        needOne(walk, grounds.walks);
        needOne(child, grounds.children);
        needOne(hoop, grounds.hoops);
        State now = history.now;
        return bowling.minutesOf(now, walk, child, hoop, at(now.tired, child));
    }

    public int would(int length, int pace, int age, int weight, int tired, int rain, int bribe)
            throws IllegalArgumentException {
        needIn(length, 1, 20);
        needIn(pace, 1, 9);
        needIn(age, 3, OLDEST);
        needIn(weight, 1, 9);
        needIn(tired, 0, FULL);
        needIn(rain, 0, 1);
        needIn(bribe, 0, FULL);
        rule.length = length;
        rule.pace = pace;
        rule.age = age;
        rule.weight = weight;
        rule.tired = tired;
        rule.rain = rain;
        rule.walk = 0;
        rule.hoop = 0;
        rule.bribe = bribe;
        return rule.outcome();
    }

    public int lasts(int hoop, int child) throws NoSuchElementException {
        needOne(hoop, grounds.hoops);
        needOne(child, grounds.children);
        return bowling.longOf(history.now, hoop, child);
    }

    public int ahead(int n, int what) throws IllegalArgumentException {
        needIn(n, 0, 200);
        needIn(what, 0, 4);
        going.start(history.now);
        for (int i = 0; i < n; i++) {
            going.goOn(0);
        }
        switch (what) {
            case 0: return going.gone;
            case 1: return going.then.hoop;
            case 2: return going.then.gate;
            case 3: return going.then.fines() - history.now.fines();
            default: return going.rolls;
        }
    }

    public int due(int hoop) throws NoSuchElementException {
        needOne(hoop, grounds.hoops);
        going.start(history.now);
        for (int i = 0; i < MOST_AHEAD; i++) {
            if (going.begins(hoop)) {
                return going.gone;
            }
            going.goOn(0);
        }
        return going.begins(hoop) ? going.gone : NONE;
    }

    public int hour(int m) throws IllegalArgumentException {
        needIn(m, 0, 999);
        going.start(history.now);
        for (int i = 0; i < MOST_AHEAD; i++) {
            int hoop = going.then.hoop;
            if (!going.goOn(0)) {
                return NONE;
            }
            if (m < going.gone) {
                return hoop;
            }
        }
        return NONE;
    }

    public int late() {
        going.start(history.now);
        int before = history.now.lateHours;
        for (int i = 0; i < MOST_AHEAD; i++) {
            int hoop = going.then.hoop;
            if (!going.goOn(0)) {
                return NONE;
            }
            if (going.then.lateHours > before) {
                return hoop;
            }
        }
        return NONE;
    }

    public int match(int hoops, int m) throws IllegalArgumentException {
        needBits(hoops, grounds.hoops);
        needIn(m, 0, 999);
        matching.solve(history.now, hoops, m);
        return matching.least;
    }

    public int matched(int hoops, int m, int hoop) throws NoSuchElementException, IllegalArgumentException {
        needOne(hoop, grounds.hoops);
        needBits(hoops, grounds.hoops);
        needIn(m, 0, 999);
        matching.solve(history.now, hoops, m);
        return at(matching.chosen, hoop);
    }

    public int fits(int what) throws IllegalArgumentException {
        needIn(what, 0, 1);
        guessing.findFits(history.now);
        return what == 0 ? guessing.fitting : guessing.first;
    }

    public int listen(int what) throws IllegalArgumentException {
        needIn(what, 0, 1);
        guessing.chooseGate(history.now);
        return what == 0 ? guessing.gate : guessing.worst;
    }

    public long safe(int walks, int part) throws IllegalArgumentException {
        needBits(walks, grounds.walks);
        needIn(part, 0, 1);
        long above = 1;
        long below = 1;
        for (int walk = 0; walk < grounds.walks; walk++) {
            if (hasBit(walks, walk)) {
                above *= SIXTEEN - at(grounds.falls, walk);
                below *= SIXTEEN;
            }
        }
        return partOf(above, below, part);
    }

    public int mean(int n, int part) throws IllegalArgumentException {
        needIn(n, 0, 99);
        needIn(part, 0, 1);
        long above = 0;
        for (int walk = 0; walk < grounds.walks; walk++) {
            above += (long) n * at(grounds.falls, walk);
        }
        return (int) partOf(above, SIXTEEN, part);
    }

    public long stands(int q, int n, int part) throws IllegalArgumentException {
        needIn(q, 0, SIXTEEN);
        needIn(n, 0, 12);
        needIn(part, 0, 1);
        long above = 1;
        long below = 1;
        for (int i = 0; i < n; i++) {
            above *= SIXTEEN - q;
            below *= SIXTEEN;
        }
        return partOf(above, below, part);
    }

    public int cover(int walks) throws IllegalArgumentException {
        needBits(walks, grounds.walks);
        int best = allOf(grounds.walks);
        for (int gates = 0; gates <= allOf(grounds.walks); gates++) {
            boolean all = (grounds.watchedFrom(gates) & walks) == walks;
            if (all && Integer.bitCount(gates) < Integer.bitCount(best)) {
                best = gates;
            }
        }
        return best;
    }

    public int watch(int n, int what) throws IllegalArgumentException {
        needIn(n, 0, MOST);
        needIn(what, 0, 1);
        int best = NONE;
        int most = NONE;
        for (int gates = 0; gates <= allOf(grounds.walks); gates++) {
            int falls = grounds.fallsOn(grounds.watchedFrom(gates));
            if (Integer.bitCount(gates) == n && falls > most) {
                best = gates;
                most = falls;
            }
        }
        return what == 0 ? best : most;
    }

    public int toffee(int hoop, int k, int what) throws NoSuchElementException, IllegalArgumentException {
        needOne(hoop, grounds.hoops);
        needIn(k, 0, 9);
        needIn(what, 0, 2);
        int weight = at(grounds.weights, hoop);
        int found = 0;
        int first = NONE;
        int together = 0;
        for (int one = 0; one <= k; one++) {
            for (int other = 0; other <= k; other++) {
                if (rests(weight, k, one, other)) {
                    if (found == 0) {
                        first = 10 * one + other;
                        together = gain(weight, one, other) + gain(weight, other, one);
                    }
                    found++;
                }
            }
        }
        return what == 0 ? found : what == 1 ? first : together;
    }

    public int share(int child, int children, int n) throws NoSuchElementException, IllegalArgumentException {
        needOne(child, grounds.children);
        needBits(children, grounds.children);
        needIn(n, 0, 99);
        if (!hasBit(children, child)) {
            return 0;
        }
        return Math.min(at(grounds.ages, child), grounds.boundOf(children, n));
    }

    public int quickest(int hoop, int what) throws NoSuchElementException, IllegalArgumentException {
        needOne(hoop, grounds.hoops);
        needIn(what, 0, 1);
        int best = NONE;
        int least = NONE;
        for (int child = 0; child < grounds.children; child++) {
            int lasting = bowling.longOf(history.now, hoop, child);
            if (best == NONE || lasting < least) {
                best = child;
                least = lasting;
            }
        }
        return what == 0 ? best : least;
    }

    public int debtor(int what) throws IllegalArgumentException {
        needIn(what, 0, 1);
        int best = NONE;
        int most = 0;
        for (int child = 0; child < grounds.children; child++) {
            int owed = at(history.now.owed, child);
            if (owed > most) {
                best = child;
                most = owed;
            }
        }
        if (best == NONE) {
            return NONE;
        }
        return what == 0 ? best : most;
    }

    public int idle() {
        int bits = 0;
        for (int child = 0; child < grounds.children; child++) {
            if (history.now.hoopsOf(child) == 0) {
                bits |= 1 << child;
            }
        }
        return bits;
    }

    public int bowls(int child, int n) throws NoSuchElementException, IllegalArgumentException {
        needOne(child, grounds.children);
        needIn(n, 0, 200);
        going.start(history.now);
        int bowled = 0;
        for (int i = 0; i < n; i++) {
            int bowler = at(going.then.owners, going.then.hoop);
            if (!going.goOn(0)) {
                break;
            }
            if (bowler == child) {
                bowled++;
            }
        }
        return bowled;
    }

    public int load(int child) throws NoSuchElementException {
        needOne(child, grounds.children);
        int sum = 0;
        for (int hoop = 0; hoop < grounds.hoops; hoop++) {
            if (at(history.now.owners, hoop) == child) {
                sum += at(grounds.weights, hoop);
            }
        }
        return sum;
    }

    public int slowest(int what) throws IllegalArgumentException {
        needIn(what, 0, 1);
        int best = NONE;
        int most = NONE;
        for (int hoop = 0; hoop < grounds.hoops; hoop++) {
            int owner = at(history.now.owners, hoop);
            int lasting = owner == NONE ? NONE : bowling.longOf(history.now, hoop, owner);
            if (lasting > most) {
                best = hoop;
                most = lasting;
            }
        }
        return what == 0 ? best : most;
    }

    public int days(int seed, int rolls, int q, int what) throws IllegalArgumentException {
        needIn(rolls, 1, 200);
        needIn(q, 0, SIXTEEN);
        needIn(what, 0, 3);
        going.passDays(history.now, seed, rolls, q);
        switch (what) {
            case 0: return going.gone;
            case 1: return going.fallen;
            case 2: return going.rained;
            default: return going.then.fines() - history.now.fines();
        }
    }

    public int span(int seed, int many, int rolls, int q, int what) throws IllegalArgumentException {
        needIn(many, 1, 20);
        needIn(rolls, 1, 200);
        needIn(q, 0, SIXTEEN);
        needIn(what, 0, 2);
        int fewest = NEVER_SO_MANY;
        int most = 0;
        int without = 0;
        for (int i = 0; i < many; i++) {
            going.passDays(history.now, seed + i, rolls, q);
            fewest = Math.min(fewest, going.gone);
            most = Math.max(most, going.gone);
            without += going.fallen == 0 ? 1 : 0;
        }
        return what == 0 ? fewest : what == 1 ? most : without;
    }

    public int image() {
        if (imagesKept < 0 || imagesKept >= images.length) {
            return NONE;
        }
        History kept = images[imagesKept];
        if (kept != null) {
            kept.copy(history);
        }
        imagesKept++;
        return imagesKept;
    }

    public int restore() {
        if (imagesKept <= 0 || imagesKept > images.length) {
            return NONE;
        }
        imagesKept--;
        History kept = images[imagesKept];
        if (kept != null) {
            history.copy(kept);
        }
        refusedSteps = 0;
        return imagesKept;
    }

    public int status(int what) {
        return what == 0 ? noSuchCalls : what == 1 ? illegalCalls : NONE;
    }

    public int count(int what) {
        switch (what) {
            case 0: return imagesKept;
            case 1: return tape.size;
            case 2: return history.works;
            default: return NONE;
        }
    }

    private void needOne(int number, int many) {
        if (number < 0 || number >= many) {
            noSuchCalls++;
            throw new NoSuchElementException("there is none of this number");
        }
    }

    private void needIn(int number, int least, int most) {
        if (number < least || number > most) {
            illegalCalls++;
            throw new IllegalArgumentException("a number out of its bounds");
        }
    }

    private void needBits(int bits, int many) {
        needIn(bits, 0, allOf(many));
    }

    private void needText(int n, int longest) {
        needIn(n, 0, Math.min(tape.size, longest));
    }

    private static int allOf(int many) {
        return (1 << many) - 1;
    }

    private static boolean hasBit(int bits, int number) {
        return (bits >> number & 1) == 1;
    }

    /** The part of a fraction in least terms: above (0) or below (1). */
    private static long partOf(long above, long below, int part) {
        long divisor = below;
        long rest = above;
        for (int i = 0; i < 200 && rest != 0; i++) {
            long left = divisor % rest;
            divisor = rest;
            rest = left;
        }
        long asked = part == 0 ? above : below;
        return divisor > 0 ? asked / divisor : asked;
    }

    private static int gain(int weight, int gift, int other) {
        return (gift > other ? weight : 0) - gift;
    }

    private static boolean rests(int weight, int k, int one, int other) {
        int ones = gain(weight, one, other);
        int others = gain(weight, other, one);
        for (int gift = 0; gift <= k; gift++) {
            if (gain(weight, gift, other) > ones || gain(weight, gift, one) > others) {
                return false;
            }
        }
        return true;
    }

    /** Rows of numbers are touched only where they have a place. */
    private static int at(int[] row, int place) {
        return place >= 0 && place < row.length ? row[place] : 0;
    }

    private static void put(int[] row, int place, int value) {
        if (place >= 0 && place < row.length) {
            row[place] = value;
        }
    }

    private static void fill(int[] row, int value) {
        for (int i = 0; i < row.length; i++) {
            row[i] = value;
        }
    }

    private static void copyRow(int[] from, int[] to) {
        for (int i = 0; i < from.length && i < to.length; i++) {
            to[i] = from[i];
        }
    }

    /** The bytes that were fed, and the text that is read from them up to its first fault. */
    private static final class Tape {
        static final int WRONG = 1;
        static final int NO_SUCH = 2;
        static final int TOO_MANY = 3;

        final int[] bytes = new int[TAPE_BYTES];
        int size;
        int end;
        int place;
        int tokenAt;
        int fault;
        int faultAt = NONE;

        void push(int number) {
            for (int shift = 24; shift >= 0; shift -= 8) {
                put(bytes, size, number >>> shift & 255);
                size++;
            }
        }

        /** The bytes stay in their row while the text is read, though the tape counts as empty. */
        void open(int n) {
            end = n;
            place = 0;
            size = 0;
            fault = 0;
            faultAt = NONE;
        }

        boolean faulty() {
            return fault != 0;
        }

        void fail(int kind, int where) {
            if (fault == 0) {
                fault = kind;
                faultAt = where;
            }
        }

        /** The next byte that is no blank, which is not taken yet; NONE at the end. */
        int next() {
            while (place >= 0 && place < end && place < bytes.length) {
                if (bytes[place] != ' ') {
                    return bytes[place];
                }
                place++;
            }
            return NONE;
        }

        void need(int sign) {
            if (next() == sign) {
                place++;
            } else {
                fail(WRONG, place);
            }
        }

        int number(int least, int most) {
            next();
            tokenAt = place;
            int value = 0;
            while (place < end && isDigit(at(bytes, place))) {
                value = Math.min(value * 10 + at(bytes, place) - '0', 10000);
                place++;
            }
            if (place == tokenAt) {
                fail(WRONG, tokenAt);
            } else if (value < least || value > most) {
                fail(NO_SUCH, tokenAt);
            }
            return value;
        }

        void word() {
            next();
            tokenAt = place;
            while (place < end && isSmall(at(bytes, place))) {
                place++;
            }
        }

        /** Whether the word that was read last is this one. */
        boolean was(String text) {
            if (place - tokenAt != text.length()) {
                return false;
            }
            for (int i = 0; i < text.length(); i++) {
                if (at(bytes, tokenAt + i) != text.charAt(i)) {
                    return false;
                }
            }
            return true;
        }

        static boolean isDigit(int sign) {
            return sign >= '0' && sign <= '9';
        }

        static boolean isSmall(int sign) {
            return sign >= 'a' && sign <= 'z';
        }
    }

    /** What a park's text tells. */
    private static final class Park {
        static final int WALK = 0;
        static final int CHILD = 1;
        static final int HOOP = 2;
        static final int LONG = 3;
        static final int FINE = 4;

        final int[] lengths = new int[MOST];
        final int[] falls = new int[MOST];
        final int[] paces = new int[MOST];
        final int[] ages = new int[MOST];
        final int[] weights = new int[MOST];
        int walks;
        int children;
        int hoops;
        int longest = 60;
        int fine = 5;

        void clear() {
            walks = 0;
            children = 0;
            hoops = 0;
            longest = 60;
            fine = 5;
        }

        void copy(Park other) {
            copyRow(other.lengths, lengths);
            copyRow(other.falls, falls);
            copyRow(other.paces, paces);
            copyRow(other.ages, ages);
            copyRow(other.weights, weights);
            walks = other.walks;
            children = other.children;
            hoops = other.hoops;
            longest = other.longest;
            fine = other.fine;
        }

        void read(Tape tape) {
            clear();
            for (int told = 0; told <= MOST_CLAUSES; told++) {
                if (tape.faulty() || tape.next() == NONE) {
                    return;
                }
                readClause(tape, told);
            }
        }

        private void readClause(Tape tape, int told) {
            tape.word();
            int kind = kindOf(tape);
            if (kind == NONE) {
                tape.fail(Tape.WRONG, tape.tokenAt);
            } else if (told >= MOST_CLAUSES || isFull(kind)) {
                tape.fail(Tape.TOO_MANY, tape.tokenAt);
            } else {
                readNumbers(tape, kind);
                tape.need(';');
            }
        }

        private static int kindOf(Tape tape) {
            return tape.was("walk") ? WALK
                : tape.was("child") ? CHILD
                : tape.was("hoop") ? HOOP
                : tape.was("long") ? LONG
                : tape.was("fine") ? FINE
                : NONE;
        }

        private boolean isFull(int kind) {
            return kind == WALK && walks >= MOST
                || kind == CHILD && children >= MOST
                || kind == HOOP && hoops >= MOST;
        }

        private void readNumbers(Tape tape, int kind) {
            switch (kind) {
                case WALK:
                    put(lengths, walks, tape.number(1, 20));
                    put(falls, walks, tape.number(0, SIXTEEN));
                    walks++;
                    break;
                case CHILD:
                    put(paces, children, tape.number(1, 9));
                    put(ages, children, tape.number(3, OLDEST));
                    children++;
                    break;
                case HOOP:
                    put(weights, hoops, tape.number(1, 9));
                    hoops++;
                    break;
                case LONG:
                    longest = tape.number(1, 500);
                    break;
                default:
                    fine = tape.number(0, 20);
                    break;
            }
        }

        /** The walks that begin or end at one of these gates. */
        int watchedFrom(int gates) {
            int bits = 0;
            for (int walk = 0; walk < walks; walk++) {
                int behind = walk + 1 < walks ? walk + 1 : 0;
                if (hasBit(gates, walk) || hasBit(gates, behind)) {
                    bits |= 1 << walk;
                }
            }
            return bits;
        }

        int fallsOn(int told) {
            int sum = 0;
            for (int walk = 0; walk < walks; walk++) {
                sum += hasBit(told, walk) ? at(falls, walk) : 0;
            }
            return sum;
        }

        /** The greatest bound by which these children get no more than n together. */
        int boundOf(int told, int n) {
            for (int bound = OLDEST; bound > 0; bound--) {
                int given = 0;
                for (int child = 0; child < children; child++) {
                    given += hasBit(told, child) ? Math.min(bound, at(ages, child)) : 0;
                }
                if (given <= n) {
                    return bound;
                }
            }
            return 0;
        }
    }

    /** How long a walk takes: what is reckoned stands as a row of marks, each behind what it works on. */
    private static final class Law {
        static final int NUMBER = 'n';
        static final int FACT = 'f';
        static final int LEAST = 'l';
        static final int GREATEST = 'm';

        final int[] marks = new int[LAW_BYTES];
        final int[] values = new int[LAW_BYTES];
        final int[] stack = new int[64];
        int size;
        boolean given;
        int length;
        int pace;
        int age;
        int weight;
        int tired;
        int rain;
        int walk;
        int hoop;
        int bribe;

        void clear() {
            given = false;
            size = 0;
        }

        void copy(Law other) {
            copyRow(other.marks, marks);
            copyRow(other.values, values);
            size = other.size;
            given = other.given;
        }

        void read(Tape tape) {
            size = 0;
            given = true;
            readSum(tape, 0);
            if (tape.next() != NONE) {
                tape.fail(Tape.WRONG, tape.place);
            }
        }

        private void readSum(Tape tape, int open) {
            readProduct(tape, open);
            for (int i = 0; i < LAW_BYTES && !tape.faulty(); i++) {
                int sign = tape.next();
                if (sign != '+' && sign != '-') {
                    return;
                }
                tape.need(sign);
                readProduct(tape, open);
                mark(sign, 0);
            }
        }

        private void readProduct(Tape tape, int open) {
            readUnit(tape, open);
            for (int i = 0; i < LAW_BYTES && !tape.faulty(); i++) {
                int sign = tape.next();
                if (sign != '*' && sign != '/' && sign != '%') {
                    return;
                }
                tape.need(sign);
                readUnit(tape, open);
                mark(sign, 0);
            }
        }

        private void readUnit(Tape tape, int open) {
            int sign = tape.next();
            if (tape.faulty()) {
                return;
            }
            if (Tape.isDigit(sign)) {
                mark(NUMBER, tape.number(0, 999));
            } else if (sign == '(') {
                readBracket(tape, open);
            } else {
                tape.word();
                int fact = factOf(tape);
                if (fact != NONE) {
                    mark(FACT, fact);
                } else if (tape.was("least")) {
                    readPair(tape, open, LEAST);
                } else if (tape.was("most")) {
                    readPair(tape, open, GREATEST);
                } else {
                    tape.fail(Tape.WRONG, tape.tokenAt);
                }
            }
        }

        private void readBracket(Tape tape, int open) {
            if (open >= MOST_OPEN) {
                tape.fail(Tape.TOO_MANY, tape.place);
                return;
            }
            tape.need('(');
            readSum(tape, open + 1);
            tape.need(')');
        }

        private void readPair(Tape tape, int open, int kind) {
            if (open >= MOST_OPEN) {
                tape.fail(Tape.TOO_MANY, tape.tokenAt);
                return;
            }
            tape.need('[');
            readSum(tape, open + 1);
            tape.need(',');
            readSum(tape, open + 1);
            tape.need(']');
            mark(kind, 0);
        }

        private static int factOf(Tape tape) {
            return tape.was("length") ? 0
                : tape.was("pace") ? 1
                : tape.was("age") ? 2
                : tape.was("weight") ? 3
                : tape.was("tired") ? 4
                : tape.was("rain") ? 5
                : tape.was("walk") ? 6
                : tape.was("hoop") ? 7
                : tape.was("bribe") ? 8
                : NONE;
        }

        private void mark(int kind, int value) {
            put(marks, size, kind);
            put(values, size, value);
            size++;
        }

        /** Minutes by the facts that were set. */
        int outcome() {
            int top = 0;
            for (int i = 0; i < size; i++) {
                int kind = at(marks, i);
                int value = at(values, i);
                if (kind == NUMBER || kind == FACT) {
                    put(stack, top, kind == NUMBER ? value : fact(value));
                    top++;
                } else {
                    top--;
                    put(stack, top - 1, joined(kind, at(stack, top - 1), at(stack, top)));
                }
            }
            int result = given ? at(stack, 0) : plain();
            return result < 1 ? 1 : result > FULL ? FULL : result;
        }

        private int plain() {
            return (pace == 0 ? 0 : length * 6 / pace) + weight + tired;
        }

        private int fact(int number) {
            switch (number) {
                case 0: return length;
                case 1: return pace;
                case 2: return age;
                case 3: return weight;
                case 4: return tired;
                case 5: return rain;
                case 6: return walk;
                case 7: return hoop;
                default: return bribe;
            }
        }

        private static int joined(int kind, int left, int right) {
            switch (kind) {
                case '+': return left + right;
                case '-': return left - right;
                case '*': return left * right;
                case '/': return right == 0 ? 0 : left / right;
                case '%': return right == 0 ? 0 : left % right;
                case LEAST: return left < right ? left : right;
                default: return left > right ? left : right;
            }
        }
    }

    /** What was heard: at which gate a hoop came in which minute. */
    private static final class Songs {
        final int[] minuteAt = new int[MOST];
        int lines;

        Songs() {
            clear();
        }

        void clear() {
            fill(minuteAt, NONE);
            lines = 0;
        }

        void copy(Songs other) {
            copyRow(other.minuteAt, minuteAt);
            lines = other.lines;
        }

        boolean hasGate(int gate) {
            return at(minuteAt, gate) != NONE;
        }

        void read(Tape tape, int walks) {
            clear();
            for (int i = 0; i < SONGS_BYTES; i++) {
                if (tape.faulty() || tape.next() == NONE) {
                    return;
                }
                readLine(tape, walks);
            }
        }

        private void readLine(Tape tape, int walks) {
            int gate = tape.number(1, walks - 1);
            if (!tape.faulty() && hasGate(gate)) {
                tape.fail(Tape.NO_SUCH, tape.tokenAt);
            }
            int minute = tape.number(0, 999);
            tape.need(';');
            put(minuteAt, gate, minute);
            lines++;
        }
    }

    /** All that work changes. */
    private static final class State {
        final int[] tired = new int[MOST];
        final int[] toffees = new int[MOST];
        final int[] owed = new int[MOST];
        final int[] owners = new int[MOST];
        final int[] lasted = new int[MOST];
        int hoop;
        int gate;
        int hourMinutes;
        int day;
        int dayMinutes;
        int rain;
        int lateHours;

        State() {
            clear();
        }

        void clear() {
            fill(tired, 0);
            fill(toffees, 0);
            fill(owed, 0);
            fill(owners, NONE);
            fill(lasted, 0);
            hoop = 0;
            gate = 0;
            hourMinutes = 0;
            day = 0;
            dayMinutes = 0;
            rain = 0;
            lateHours = 0;
        }

        void copy(State other) {
            copyRow(other.tired, tired);
            copyRow(other.toffees, toffees);
            copyRow(other.owed, owed);
            copyRow(other.owners, owners);
            copyRow(other.lasted, lasted);
            hoop = other.hoop;
            gate = other.gate;
            hourMinutes = other.hourMinutes;
            day = other.day;
            dayMinutes = other.dayMinutes;
            rain = other.rain;
            lateHours = other.lateHours;
        }

        int fines() {
            int sum = 0;
            for (int i = 0; i < owed.length; i++) {
                sum += owed[i];
            }
            return sum;
        }

        int hoopsOf(int child) {
            int bits = 0;
            for (int i = 0; i < owners.length; i++) {
                if (owners[i] == child) {
                    bits |= 1 << i;
                }
            }
            return bits;
        }
    }

    /** How all is now, and how it was ahead of each work that can be undone. */
    private static final class History {
        final State now = new State();
        final State[] past = new State[MOST_WORKS];
        int works;

        History() {
            for (int i = 0; i < past.length; i++) {
                past[i] = new State();
            }
        }

        void clear() {
            now.clear();
            works = 0;
        }

        void keep() {
            if (works < 0 || works >= past.length) {
                return;
            }
            State kept = past[works];
            if (kept != null) {
                kept.copy(now);
                works++;
            }
        }

        void takeBack() {
            if (works <= 0 || works > past.length) {
                return;
            }
            works--;
            State kept = past[works];
            if (kept != null) {
                now.copy(kept);
            }
        }

        void copy(History other) {
            now.copy(other.now);
            works = other.works;
            for (int i = 0; i < works && i < past.length && i < other.past.length; i++) {
                State from = other.past[i];
                State to = past[i];
                if (from != null && to != null) {
                    to.copy(from);
                }
            }
        }
    }

    /** Hoops bowled along walks. */
    private static final class Bowling {
        final Park grounds;
        final Law rule;

        Bowling(Park grounds, Law rule) {
            this.grounds = grounds;
            this.rule = rule;
        }

        int minutesOf(State state, int walk, int child, int hoop, int tired) {
            rule.length = at(grounds.lengths, walk);
            rule.pace = at(grounds.paces, child);
            rule.age = at(grounds.ages, child);
            rule.weight = at(grounds.weights, hoop);
            rule.tired = Math.min(FULL, tired);
            rule.rain = state.rain;
            rule.walk = walk;
            rule.hoop = hoop;
            rule.bribe = at(state.toffees, child);
            return rule.outcome();
        }

        /** How long a hoop's hour is, were it all bowled by this child now. */
        int longOf(State state, int hoop, int child) {
            int tired = at(state.tired, child);
            int sum = 0;
            for (int walk = 0; walk < grounds.walks; walk++) {
                sum += minutesOf(state, walk, child, hoop, tired + walk);
            }
            return sum;
        }

        boolean canBowl(State state) {
            return grounds.walks > 0 && grounds.hoops > 0 && at(state.owners, state.hoop) != NONE;
        }

        /** Bowls the hoop that is the hour along one walk, so many minutes longer by a fall. */
        int bowl(State state, int fall) {
            int hoop = state.hoop;
            int child = at(state.owners, hoop);
            int tired = at(state.tired, child);
            int took = minutesOf(state, state.gate, child, hoop, tired) + fall;
            put(state.tired, child, Math.min(FULL, tired + 1));
            state.hourMinutes += took;
            state.dayMinutes += took;
            state.gate++;
            if (state.gate >= grounds.walks) {
                endHour(state, child);
            }
            return took;
        }

        private void endHour(State state, int child) {
            put(state.lasted, state.hoop, state.hourMinutes);
            if (state.hourMinutes > grounds.longest) {
                state.lateHours++;
                put(state.owed, child, at(state.owed, child) + grounds.fine);
            }
            put(state.toffees, child, 0);
            state.hourMinutes = 0;
            state.gate = 0;
            state.hoop++;
            if (state.hoop >= grounds.hoops) {
                state.hoop = 0;
                state.day++;
                state.dayMinutes = 0;
            }
        }
    }

    /** The steps of one work, each a kind and two numbers: of an again how often, and where its body ends. */
    private static final class Steps {
        static final int GIVE = 0;
        static final int ROLL = 1;
        static final int RAIN = 2;
        static final int REST = 3;
        static final int BRIBE = 4;
        static final int AGAIN = 5;

        final Park grounds;
        final Bowling bowling;
        final int[] kinds = new int[WORK_BYTES];
        final int[] firsts = new int[WORK_BYTES];
        final int[] seconds = new int[WORK_BYTES];
        int size;
        int begun;
        int done;
        int refused;

        Steps(Park grounds, Bowling bowling) {
            this.grounds = grounds;
            this.bowling = bowling;
        }

        void read(Tape tape) {
            size = 0;
            readAll(tape, 0);
        }

        private void readAll(Tape tape, int open) {
            int behind = open == 0 ? NONE : ']';
            for (int i = 0; i < WORK_BYTES; i++) {
                if (tape.faulty() || tape.next() == behind) {
                    return;
                }
                readOne(tape, open);
                tape.need(';');
            }
        }

        private void readOne(Tape tape, int open) {
            tape.word();
            if (tape.was("give")) {
                int hoop = tape.number(0, grounds.hoops - 1);
                write(GIVE, hoop, tape.number(0, grounds.children - 1));
            } else if (tape.was("roll")) {
                write(ROLL, 0, 0);
            } else if (tape.was("rain")) {
                write(RAIN, 0, 0);
            } else if (tape.was("rest")) {
                write(REST, tape.number(0, grounds.children - 1), 0);
            } else if (tape.was("bribe")) {
                int child = tape.number(0, grounds.children - 1);
                write(BRIBE, child, tape.number(1, 9));
            } else if (tape.was("again")) {
                readAgain(tape, open);
            } else {
                tape.fail(Tape.WRONG, tape.tokenAt);
            }
        }

        private void readAgain(Tape tape, int open) {
            if (open >= MOST_OPEN) {
                tape.fail(Tape.TOO_MANY, tape.tokenAt);
                return;
            }
            int own = size;
            write(AGAIN, tape.number(0, 60), 0);
            tape.need('[');
            readAll(tape, open + 1);
            tape.need(']');
            put(seconds, own, size);
        }

        private void write(int kind, int first, int second) {
            put(kinds, size, kind);
            put(firsts, size, first);
            put(seconds, size, second);
            size++;
        }

        void start() {
            begun = 0;
            done = 0;
            refused = 0;
        }

        /** Does the steps of the text, or of one body within it. */
        private void perform(State state, int from, int to, int open) {
            if (open > MOST_OPEN) {
                return;
            }
            int next = from;
            for (int i = 0; i < WORK_BYTES && next < to && begun < MOST_BEGUN; i++) {
                begun++;
                if (at(kinds, next) == AGAIN) {
                    int behind = at(seconds, next);
                    for (int times = at(firsts, next); times > 0; times--) {
                        perform(state, next + 1, behind, open + 1);
                    }
                    next = behind;
                } else {
                    performOne(state, next);
                    next++;
                }
            }
        }

        private void performOne(State state, int step) {
            int first = at(firsts, step);
            int second = at(seconds, step);
            if (isRefused(state, at(kinds, step), first, second)) {
                refused++;
                return;
            }
            done++;
            switch (at(kinds, step)) {
                case GIVE:
                    put(state.owners, first, second);
                    break;
                case ROLL:
                    bowling.bowl(state, 0);
                    break;
                case RAIN:
                    state.rain = 1 - state.rain;
                    break;
                case REST:
                    put(state.tired, first, 0);
                    break;
                default:
                    put(state.toffees, first, Math.min(FULL, at(state.toffees, first) + second));
                    break;
            }
        }

        private boolean isRefused(State state, int kind, int first, int second) {
            switch (kind) {
                case GIVE: return at(state.owners, first) == second;
                case ROLL: return state.day >= MOST_DAYS || !bowling.canBowl(state);
                case RAIN: return false;
                case REST: return at(state.tired, first) == 0;
                default: return at(state.toffees, first) >= FULL;
            }
        }
    }

    /** Rolls that are only asked about, done on a state of their own. */
    private static final class Going {
        final Park grounds;
        final Bowling bowling;
        final State then = new State();
        int gone;
        int rolls;
        int fallen;
        int rained;
        int seed;

        Going(Park grounds, Bowling bowling) {
            this.grounds = grounds;
            this.bowling = bowling;
        }

        void start(State now) {
            then.copy(now);
            gone = 0;
            rolls = 0;
            fallen = 0;
            rained = 0;
        }

        boolean begins(int hoop) {
            return then.hoop == hoop && then.gate == 0;
        }

        /** Does one more roll, if it can be done. */
        boolean goOn(int fall) {
            if (!bowling.canBowl(then)) {
                return false;
            }
            gone += bowling.bowl(then, fall);
            rolls++;
            return true;
        }

        void passDays(State now, int firstSeed, int many, int q) {
            start(now);
            seed = firstSeed;
            for (int i = 0; i < many && bowling.canBowl(then); i++) {
                then.rain = draw() < q ? 1 : 0;
                rained += then.rain;
                boolean falls = draw() < at(grounds.falls, then.gate);
                fallen += falls ? 1 : 0;
                goOn(falls ? 5 : 0);
            }
        }

        private int draw() {
            seed = seed * 1103515245 + 12345;
            return (seed >>> 16 & 32767) % SIXTEEN;
        }
    }

    /** Hoops given to unlike children, so that hours are as long as told. */
    private static final class Matching {
        final Park grounds;
        final Bowling bowling;
        final int[] chosen = new int[MOST];
        final int[] told = new int[MOST];
        final int[] distances = new int[MOST * MOST];
        final int[] bests = new int[1 << MOST];
        int many;
        int least;

        Matching(Park grounds, Bowling bowling) {
            this.grounds = grounds;
            this.bowling = bowling;
        }

        void solve(State state, int hoops, int m) {
            fill(chosen, NONE);
            least = NONE;
            list(hoops);
            if (many > grounds.children) {
                return;
            }
            measure(state, m);
            findBests();
            least = at(bests, 0);
            choose();
        }

        private void list(int hoops) {
            many = 0;
            for (int hoop = 0; hoop < grounds.hoops; hoop++) {
                if (hasBit(hoops, hoop)) {
                    put(told, many, hoop);
                    many++;
                }
            }
        }

        private void measure(State state, int m) {
            for (int i = 0; i < many; i++) {
                for (int child = 0; child < grounds.children; child++) {
                    int lasting = bowling.longOf(state, at(told, i), child);
                    put(distances, i * MOST + child, Math.abs(lasting - m));
                }
            }
        }

        /** By the children that are taken, the least sum of the hoops that are left; it builds on more that are taken. */
        private void findBests() {
            for (int taken = allOf(grounds.children); taken >= 0; taken--) {
                int best = Integer.bitCount(taken) >= many ? 0 : NEVER_SO_MANY;
                for (int child = 0; child < grounds.children; child++) {
                    if (Integer.bitCount(taken) < many && !hasBit(taken, child)) {
                        best = Math.min(best, sumWith(taken, child));
                    }
                }
                put(bests, taken, best);
            }
        }

        private int sumWith(int taken, int child) {
            int distance = at(distances, Integer.bitCount(taken) * MOST + child);
            return distance + at(bests, taken | 1 << child);
        }

        private void choose() {
            int taken = 0;
            for (int i = 0; i < many; i++) {
                for (int child = 0; child < grounds.children; child++) {
                    if (!hasBit(taken, child) && sumWith(taken, child) == at(bests, taken)) {
                        put(chosen, at(told, i), child);
                        taken |= 1 << child;
                        break;
                    }
                }
            }
        }
    }

    /** Who bowled which hoop, by what was heard; and where to listen next. */
    private static final class Guessing {
        static final int MOST_HEARD = 1000;

        final Park grounds;
        final Bowling bowling;
        final Songs heard;
        final int[] pairs = new int[MOST * MOST];
        final int[] alike = new int[MOST_HEARD];
        int fitting;
        int first;
        int gate;
        int worst;

        Guessing(Park grounds, Bowling bowling, Songs heard) {
            this.grounds = grounds;
            this.bowling = bowling;
            this.heard = heard;
        }

        void findFits(State state) {
            fitting = 0;
            for (int child = 0; child < grounds.children; child++) {
                for (int hoop = 0; hoop < grounds.hoops; hoop++) {
                    if (isRight(state, child, hoop)) {
                        put(pairs, fitting, 10 * child + hoop);
                        fitting++;
                    }
                }
            }
            first = fitting == 0 ? NONE : at(pairs, 0);
        }

        private boolean isRight(State state, int child, int hoop) {
            int minute = 0;
            for (int walk = 0; walk < grounds.walks; walk++) {
                if (heard.hasGate(walk) && at(heard.minuteAt, walk) != minute) {
                    return false;
                }
                minute += bowling.minutesOf(state, walk, child, hoop, walk);
            }
            return true;
        }

        void chooseGate(State state) {
            findFits(state);
            gate = NONE;
            worst = NONE;
            for (int next = 1; next < grounds.walks; next++) {
                if (heard.hasGate(next)) {
                    continue;
                }
                int left = mostAlike(state, next);
                if (gate == NONE || left < worst) {
                    gate = next;
                    worst = left;
                }
            }
        }

        private int mostAlike(State state, int next) {
            fill(alike, 0);
            int most = 0;
            for (int i = 0; i < fitting; i++) {
                int pair = at(pairs, i);
                int minute = minuteAt(state, pair / 10, pair % 10, next);
                int many = at(alike, minute) + 1;
                put(alike, minute, many);
                most = Math.max(most, many);
            }
            return most;
        }

        private int minuteAt(State state, int child, int hoop, int next) {
            int sum = 0;
            for (int walk = 0; walk < next; walk++) {
                sum += bowling.minutesOf(state, walk, child, hoop, walk);
            }
            return sum;
        }
    }
}

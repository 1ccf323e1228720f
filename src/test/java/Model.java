import java.util.ArrayList;
import java.util.Arrays;
import java.util.List;
import java.util.NoSuchElementException;

/** The document told once more in the plainest way, to compare answers with. Promises stand at each method. */
final class Model {
    /** A fault of a text: its kind and its place. */
    private static final class Fault extends RuntimeException {
        private static final long serialVersionUID = 1;
        final int kind;
        final int place;

        Fault(int kind, int place) {
            super(null, null, false, false);
            this.kind = kind;
            this.place = place;
        }
    }

    /** All that work changes. */
    private static final class State {
        int[] tired = new int[8];
        int[] toffees = new int[8];
        int[] owes = new int[8];
        int[] owner = {-1, -1, -1, -1, -1, -1, -1, -1};
        int[] latest = new int[8];
        int hour;
        int gate;
        int hourMinutes;
        int day;
        int dayMinutes;
        int rain;
        int late;

        State copy() {
            State s = new State();
            s.tired = tired.clone();
            s.toffees = toffees.clone();
            s.owes = owes.clone();
            s.owner = owner.clone();
            s.latest = latest.clone();
            s.hour = hour;
            s.gate = gate;
            s.hourMinutes = hourMinutes;
            s.day = day;
            s.dayMinutes = dayMinutes;
            s.rain = rain;
            s.late = late;
            return s;
        }

        int fines() {
            return Arrays.stream(owes).sum();
        }
    }

    /** What a law is made of: a number, a word, or two parts joined by a sign. */
    private static final class Part {
        final String sign;
        final int number;
        final Part left;
        final Part right;

        Part(String sign, int number, Part left, Part right) {
            this.sign = sign;
            this.number = number;
            this.left = left;
            this.right = right;
        }

        int value(int[] facts) {
            if (sign.equals("number")) {
                return number;
            }
            if (left == null) {
                return facts[FACTS.indexOf(sign)];
            }
            int a = left.value(facts);
            int b = right.value(facts);
            switch (sign) {
                case "+": return (int) ((long) a + b);
                case "-": return (int) ((long) a - b);
                case "*": return (int) ((long) a * b);
                case "/": return b == 0 ? 0 : (int) ((long) a / b);
                case "%": return b == 0 ? 0 : (int) ((long) a % b);
                case "least": return Math.min(a, b);
                default: return Math.max(a, b);
            }
        }
    }

    /** A step; an again has a body. */
    private static final class Step {
        String word;
        int first;
        int second;
        List<Step> body;
    }

    private static final List<String> FACTS =
        List.of("length", "pace", "age", "weight", "tired", "rain", "walk", "hoop", "bribe");

    private final StringBuilder tape = new StringBuilder();
    private List<int[]> walks = new ArrayList<>();
    private List<int[]> children = new ArrayList<>();
    private List<Integer> hoops = new ArrayList<>();
    private int tooLong = 60;
    private int fine = 5;
    private Part law;
    private List<int[]> songs = new ArrayList<>();
    private State now = new State();
    private List<State> past = new ArrayList<>();
    private final List<State> imageStates = new ArrayList<>();
    private final List<List<State>> imagePasts = new ArrayList<>();
    private int refusedSteps;
    private int faultPlace = -1;
    private final int[] refusedCalls = new int[2];
    private String text = "";
    private int place;
    private int begun;
    private int done;

    // reading

    private int look() {
        while (place < text.length() && text.charAt(place) == ' ') {
            place++;
        }
        return place < text.length() ? text.charAt(place) : -1;
    }

    private void sign(char due) {
        if (look() != due) {
            throw new Fault(1, place);
        }
        place++;
    }

    private int number(int least, int most) {
        look();
        int from = place;
        while (place < text.length() && "0123456789".indexOf(text.charAt(place)) >= 0) {
            place++;
        }
        if (from == place) {
            throw new Fault(1, from);
        }
        java.math.BigInteger value = new java.math.BigInteger(text.substring(from, place));
        if (value.compareTo(java.math.BigInteger.valueOf(least)) < 0
            || value.compareTo(java.math.BigInteger.valueOf(most)) > 0) {
            throw new Fault(2, from);
        }
        return value.intValue();
    }

    private String word() {
        look();
        int from = place;
        while (place < text.length() && text.charAt(place) >= 'a' && text.charAt(place) <= 'z') {
            place++;
        }
        return text.substring(from, place);
    }

    private void readPark() {
        List<int[]> newWalks = new ArrayList<>();
        List<int[]> newChildren = new ArrayList<>();
        List<Integer> newHoops = new ArrayList<>();
        int newLong = 60;
        int newFine = 5;
        for (int clauses = 0; look() != -1; clauses++) {
            int from = place;
            String word = word();
            if (!List.of("walk", "child", "hoop", "long", "fine").contains(word)) {
                throw new Fault(1, from);
            }
            boolean full = word.equals("walk") && newWalks.size() == 8 || word.equals("child") && newChildren.size() == 8
                || word.equals("hoop") && newHoops.size() == 8;
            if (full || clauses == 60) {
                throw new Fault(3, from);
            }
            if (word.equals("walk")) {
                newWalks.add(new int[] {number(1, 20), number(0, 16)});
            } else if (word.equals("child")) {
                newChildren.add(new int[] {number(1, 9), number(3, 14)});
            } else if (word.equals("hoop")) {
                newHoops.add(number(1, 9));
            } else if (word.equals("long")) {
                newLong = number(1, 500);
            } else {
                newFine = number(0, 20);
            }
            sign(';');
        }
        walks = newWalks;
        children = newChildren;
        hoops = newHoops;
        tooLong = newLong;
        fine = newFine;
    }

    private Part readSum(int open) {
        Part sum = readTerm(open);
        while (look() == '+' || look() == '-') {
            String sign = "" + text.charAt(place++);
            sum = new Part(sign, 0, sum, readTerm(open));
        }
        return sum;
    }

    private Part readTerm(int open) {
        Part term = readUnit(open);
        while (look() != -1 && "*/%".indexOf(look()) >= 0) {
            String sign = "" + text.charAt(place++);
            term = new Part(sign, 0, term, readUnit(open));
        }
        return term;
    }

    private Part readUnit(int open) {
        int next = look();
        int from = place;
        if (next >= '0' && next <= '9') {
            return new Part("number", number(0, 999), null, null);
        }
        String word = word();
        boolean pair = word.equals("least") || word.equals("most");
        if (FACTS.contains(word)) {
            return new Part(word, 0, null, null);
        }
        if (!pair && next != '(') {
            throw new Fault(1, from);
        }
        if (open == 6) {
            throw new Fault(3, from);
        }
        if (!pair) {
            sign('(');
            Part inner = readSum(open + 1);
            sign(')');
            return inner;
        }
        sign('[');
        Part left = readSum(open + 1);
        sign(',');
        Part right = readSum(open + 1);
        sign(']');
        return new Part(word, 0, left, right);
    }

    private List<Step> readSteps(int open) {
        List<Step> steps = new ArrayList<>();
        while (look() != -1 && !(open > 0 && look() == ']')) {
            int from = place;
            Step step = new Step();
            step.word = word();
            switch (step.word) {
                case "give":
                    step.first = number(0, hoops.size() - 1);
                    step.second = number(0, children.size() - 1);
                    break;
                case "roll":
                case "rain":
                    break;
                case "rest":
                    step.first = number(0, children.size() - 1);
                    break;
                case "bribe":
                    step.first = number(0, children.size() - 1);
                    step.second = number(1, 9);
                    break;
                case "again":
                    if (open == 6) {
                        throw new Fault(3, from);
                    }
                    step.first = number(0, 60);
                    sign('[');
                    step.body = readSteps(open + 1);
                    sign(']');
                    break;
                default:
                    throw new Fault(1, from);
            }
            sign(';');
            steps.add(step);
        }
        return steps;
    }

    private List<int[]> readSongs() {
        List<int[]> lines = new ArrayList<>();
        while (look() != -1) {
            int from = place;
            int gate = number(1, walks.size() - 1);
            if (minuteHeard(lines, gate) != -1) {
                throw new Fault(2, from);
            }
            lines.add(new int[] {gate, number(0, 999)});
            sign(';');
        }
        return lines;
    }

    private static int minuteHeard(List<int[]> lines, int gate) {
        for (int[] line : lines) {
            if (line[0] == gate) {
                return line[1];
            }
        }
        return -1;
    }

    // refusing

    private void one(int number, int many) {
        if (number < 0 || number >= many) {
            refusedCalls[0]++;
            throw new NoSuchElementException();
        }
    }

    private void in(int number, int least, int most) {
        if (number < least || number > most) {
            refusedCalls[1]++;
            throw new IllegalArgumentException();
        }
    }

    private void bits(int bits, int many) {
        in(bits, 0, (1 << many) - 1);
    }

    // rolling

    private int minutes(State s, int walk, int child, int hoop, int tired) {
        int[] facts = {walks.get(walk)[0], children.get(child)[0], children.get(child)[1], hoops.get(hoop), tired, s.rain,
            walk, hoop, s.toffees[child]};
        return minutes(facts);
    }

    private int minutes(int[] facts) {
        int value = law == null ? facts[0] * 6 / facts[1] + facts[3] + facts[4] : law.value(facts);
        return Math.max(1, Math.min(99, value));
    }

    private boolean stands(State s) {
        return walks.isEmpty() || hoops.isEmpty() || s.owner[s.hour] == -1;
    }

    private int roll(State s, int more) {
        int child = s.owner[s.hour];
        int took = minutes(s, s.gate, child, s.hour, s.tired[child]) + more;
        s.tired[child] = Math.min(99, s.tired[child] + 1);
        s.hourMinutes += took;
        s.dayMinutes += took;
        s.gate++;
        if (s.gate == walks.size()) {
            s.latest[s.hour] = s.hourMinutes;
            if (s.hourMinutes > tooLong) {
                s.late++;
                s.owes[child] += fine;
            }
            s.toffees[child] = 0;
            s.gate = 0;
            s.hourMinutes = 0;
            s.hour++;
            if (s.hour == hoops.size()) {
                s.hour = 0;
                s.day++;
                s.dayMinutes = 0;
            }
        }
        return took;
    }

    private void perform(List<Step> steps) {
        for (Step step : steps) {
            if (begun == 200) {
                return;
            }
            begun++;
            if (step.body != null) {
                for (int i = 0; i < step.first; i++) {
                    perform(step.body);
                }
            } else if (perform(step)) {
                done++;
            } else {
                refusedSteps++;
            }
        }
    }

    private boolean perform(Step step) {
        switch (step.word) {
            case "give":
                boolean other = now.owner[step.first] != step.second;
                now.owner[step.first] = step.second;
                return other;
            case "roll":
                boolean can = !stands(now) && now.day < 200;
                if (can) {
                    roll(now, 0);
                }
                return can;
            case "rain":
                now.rain ^= 1;
                return true;
            case "rest":
                boolean tired = now.tired[step.first] > 0;
                now.tired[step.first] = 0;
                return tired;
            default:
                boolean room = now.toffees[step.first] < 99;
                now.toffees[step.first] = Math.min(99, now.toffees[step.first] + step.second);
                return room;
        }
    }

    private int lasting(int hoop, int child, int tired) {
        int sum = 0;
        for (int walk = 0; walk < walks.size(); walk++) {
            sum += minutes(now, walk, child, hoop, Math.min(99, tired + walk));
        }
        return sum;
    }

    // the face

    int feed(int... numbers) {
        if (tape.length() > 580) {
            return -1;
        }
        for (int number : numbers) {
            for (int shift : new int[] {24, 16, 8, 0}) {
                tape.append((char) (number >> shift & 255));
            }
        }
        return tape.length();
    }

    private void open(int n, int most) {
        in(n, 0, Math.min(most, tape.length()));
        text = tape.substring(0, n);
        place = 0;
    }

    int text(String what, int n) {
        int most = what.equals("park") ? 600 : what.equals("songs") ? 60 : 150;
        open(n, most);
        tape.setLength(0);
        faultPlace = -1;
        if (what.equals("work") && past.size() == 16) {
            return -20;
        }
        try {
            return read(what);
        } catch (Fault fault) {
            faultPlace = fault.place;
            return fault.kind - 10;
        }
    }

    private int read(String what) {
        switch (what) {
            case "park":
                readPark();
                law = null;
                songs = new ArrayList<>();
                now = new State();
                past = new ArrayList<>();
                imageStates.clear();
                imagePasts.clear();
                refusedSteps = 0;
                return hoops.size();
            case "law":
                Part read = readSum(0);
                if (look() != -1) {
                    throw new Fault(1, place);
                }
                law = read;
                return 1;
            case "songs":
                songs = readSongs();
                return songs.size();
            default:
                List<Step> steps = readSteps(0);
                past.add(now.copy());
                begun = 0;
                done = 0;
                refusedSteps = 0;
                perform(steps);
                return done;
        }
    }

    int fault() {
        return faultPlace;
    }

    int undo() {
        if (past.isEmpty()) {
            return -1;
        }
        now = past.remove(past.size() - 1);
        refusedSteps = 0;
        return past.size();
    }

    int told(int what) {
        in(what, 0, 12);
        int[] all = {walks.size(), children.size(), hoops.size(), now.hour, now.gate, now.hourMinutes, now.day,
            now.dayMinutes, now.rain, now.fines(), songs.size(), refusedSteps, now.late};
        return all[what];
    }

    int walk(int walk, int what) {
        one(walk, walks.size());
        in(what, 0, 1);
        return walks.get(walk)[what];
    }

    int child(int child, int what) {
        one(child, children.size());
        in(what, 0, 5);
        int bits = 0;
        for (int hoop = 0; hoop < hoops.size(); hoop++) {
            bits += now.owner[hoop] == child ? 1 << hoop : 0;
        }
        int[] all = {children.get(child)[0], children.get(child)[1], now.tired[child], now.toffees[child], now.owes[child], bits};
        return all[what];
    }

    int hoop(int hoop, int what) {
        one(hoop, hoops.size());
        in(what, 0, 2);
        int[] all = {hoops.get(hoop), now.owner[hoop], now.latest[hoop]};
        return all[what];
    }

    int minutes(int walk, int child, int hoop) {
        one(walk, walks.size());
        one(child, children.size());
        one(hoop, hoops.size());
        return minutes(now, walk, child, hoop, now.tired[child]);
    }

    int would(int length, int pace, int age, int weight, int tired, int rain, int bribe) {
        in(length, 1, 20);
        in(pace, 1, 9);
        in(age, 3, 14);
        in(weight, 1, 9);
        in(tired, 0, 99);
        in(rain, 0, 1);
        in(bribe, 0, 99);
        return minutes(new int[] {length, pace, age, weight, tired, rain, 0, 0, bribe});
    }

    int lasts(int hoop, int child) {
        one(hoop, hoops.size());
        one(child, children.size());
        return lasting(hoop, child, now.tired[child]);
    }

    int ahead(int n, int what) {
        in(n, 0, 200);
        in(what, 0, 4);
        State s = now.copy();
        int gone = 0;
        int rolls = 0;
        for (; rolls < n && !stands(s); rolls++) {
            gone += roll(s, 0);
        }
        int[] all = {gone, s.hour, s.gate, s.fines() - now.fines(), rolls};
        return all[what];
    }

    int due(int hoop) {
        one(hoop, hoops.size());
        State s = now.copy();
        int gone = 0;
        for (int rolls = 0; rolls <= 400; rolls++) {
            if (s.hour == hoop && s.gate == 0) {
                return gone;
            }
            if (stands(s)) {
                return -1;
            }
            gone += roll(s, 0);
        }
        return -1;
    }

    int hour(int m) {
        in(m, 0, 999);
        State s = now.copy();
        int gone = 0;
        for (int rolls = 0; rolls < 400 && !stands(s); rolls++) {
            int hoop = s.hour;
            gone += roll(s, 0);
            if (gone > m) {
                return hoop;
            }
        }
        return -1;
    }

    int late() {
        State s = now.copy();
        for (int rolls = 0; rolls < 400 && !stands(s); rolls++) {
            int hoop = s.hour;
            roll(s, 0);
            if (s.late != now.late) {
                return hoop;
            }
        }
        return -1;
    }

    /** The sum, and hoop by hoop the child; all ways in their order. */
    private int[] bestMatch(int hoopBits, int m) {
        int[] best = {-1, -1, -1, -1, -1, -1, -1, -1, -1};
        int[] way = best.clone();
        way[8] = 0;
        tryWays(hoopBits, m, 0, 0, way, best);
        return best;
    }

    private void tryWays(int hoopBits, int m, int hoop, int used, int[] way, int[] best) {
        if (hoop == hoops.size()) {
            if (best[8] == -1 || way[8] < best[8]) {
                System.arraycopy(way, 0, best, 0, 9);
            }
            return;
        }
        if ((hoopBits >> hoop & 1) == 0) {
            tryWays(hoopBits, m, hoop + 1, used, way, best);
            return;
        }
        for (int child = 0; child < children.size(); child++) {
            if ((used >> child & 1) == 0) {
                int far = Math.abs(lasting(hoop, child, now.tired[child]) - m);
                way[hoop] = child;
                way[8] += far;
                tryWays(hoopBits, m, hoop + 1, used | 1 << child, way, best);
                way[8] -= far;
                way[hoop] = -1;
            }
        }
    }

    int match(int hoopBits, int m) {
        bits(hoopBits, hoops.size());
        in(m, 0, 999);
        return bestMatch(hoopBits, m)[8];
    }

    int matched(int hoopBits, int m, int hoop) {
        one(hoop, hoops.size());
        bits(hoopBits, hoops.size());
        in(m, 0, 999);
        return bestMatch(hoopBits, m)[hoop];
    }

    /** At each gate the minute from gate 0 on, by a child that is not tired. */
    int[] arrivals(int child, int hoop) {
        int[] at = new int[9];
        for (int walk = 0; walk < walks.size(); walk++) {
            at[walk + 1] = at[walk] + minutes(now, walk, child, hoop, walk);
        }
        return at;
    }

    private List<int[]> fitting() {
        List<int[]> pairs = new ArrayList<>();
        for (int child = 0; child < children.size(); child++) {
            for (int hoop = 0; hoop < hoops.size(); hoop++) {
                boolean right = true;
                for (int[] line : songs) {
                    right &= arrivals(child, hoop)[line[0]] == line[1];
                }
                if (right) {
                    pairs.add(new int[] {child, hoop});
                }
            }
        }
        return pairs;
    }

    int fits(int what) {
        in(what, 0, 1);
        List<int[]> pairs = fitting();
        return what == 0 ? pairs.size() : pairs.isEmpty() ? -1 : 10 * pairs.get(0)[0] + pairs.get(0)[1];
    }

    int listen(int what) {
        in(what, 0, 1);
        int[] best = {-1, -1};
        for (int gate = 1; gate < walks.size(); gate++) {
            if (minuteHeard(songs, gate) != -1) {
                continue;
            }
            int worst = 0;
            for (int m = 0; m < 1000; m++) {
                int left = 0;
                for (int[] pair : fitting()) {
                    left += arrivals(pair[0], pair[1])[gate] == m ? 1 : 0;
                }
                worst = Math.max(worst, left);
            }
            if (best[0] == -1 || worst < best[1]) {
                best = new int[] {gate, worst};
            }
        }
        return best[what];
    }

    private static long part(long above, long below, int part) {
        for (long by = 2; by <= 16; by++) {
            while (above % by == 0 && below % by == 0 && below > 1) {
                above /= by;
                below /= by;
            }
        }
        return part == 0 ? above : below;
    }

    long safe(int walkBits, int part) {
        bits(walkBits, walks.size());
        in(part, 0, 1);
        long above = 1;
        long below = 1;
        for (int walk = 0; walk < walks.size(); walk++) {
            if ((walkBits >> walk & 1) == 1) {
                above *= 16 - walks.get(walk)[1];
                below *= 16;
            }
        }
        return part(above, below, part);
    }

    int mean(int n, int part) {
        in(n, 0, 99);
        in(part, 0, 1);
        int falls = 0;
        for (int[] walk : walks) {
            falls += walk[1];
        }
        return (int) part((long) n * falls, 16, part);
    }

    long stands(int q, int n, int part) {
        in(q, 0, 16);
        in(n, 0, 12);
        in(part, 0, 1);
        long above = 1;
        for (int i = 0; i < n; i++) {
            above *= 16 - q;
        }
        return part(above, 1L << 4 * n, part);
    }

    private int watched(int gates) {
        int bits = 0;
        for (int walk = 0; walk < walks.size(); walk++) {
            if ((gates >> walk & 1) == 1 || (gates >> (walk + 1) % walks.size() & 1) == 1) {
                bits |= 1 << walk;
            }
        }
        return bits;
    }

    int cover(int walkBits) {
        bits(walkBits, walks.size());
        for (int many = 0; many <= 8; many++) {
            for (int gates = 0; gates < 1 << walks.size(); gates++) {
                if (Integer.bitCount(gates) == many && (walkBits & ~watched(gates)) == 0) {
                    return gates;
                }
            }
        }
        return -99;
    }

    int watch(int n, int what) {
        in(n, 0, 8);
        in(what, 0, 1);
        int[] best = {-1, -1};
        for (int gates = 0; gates < 1 << walks.size(); gates++) {
            int falls = 0;
            for (int walk = 0; walk < walks.size(); walk++) {
                falls += (watched(gates) >> walk & 1) * walks.get(walk)[1];
            }
            if (Integer.bitCount(gates) == n && falls > best[1]) {
                best = new int[] {gates, falls};
            }
        }
        return best[what];
    }

    int toffee(int hoop, int k, int what) {
        one(hoop, hoops.size());
        in(k, 0, 9);
        in(what, 0, 2);
        int[] found = {0, -1, 0};
        for (int one = 0; one <= k; one++) {
            for (int other = 0; other <= k; other++) {
                boolean rests = true;
                for (int gift = 0; gift <= k; gift++) {
                    rests &= has(hoop, gift, other) <= has(hoop, one, other) && has(hoop, gift, one) <= has(hoop, other, one);
                }
                if (rests && found[0]++ == 0) {
                    found[1] = 10 * one + other;
                    found[2] = has(hoop, one, other) + has(hoop, other, one);
                }
            }
        }
        return found[what];
    }

    private int has(int hoop, int own, int others) {
        return own > others ? hoops.get(hoop) - own : -own;
    }

    int share(int child, int childBits, int n) {
        one(child, children.size());
        bits(childBits, children.size());
        in(n, 0, 99);
        int best = 0;
        for (int bound = 0; bound <= 14; bound++) {
            int sum = 0;
            for (int other = 0; other < children.size(); other++) {
                sum += (childBits >> other & 1) * Math.min(bound, children.get(other)[1]);
            }
            best = sum <= n ? bound : best;
        }
        return (childBits >> child & 1) * Math.min(best, children.get(child)[1]);
    }

    int quickest(int hoop, int what) {
        one(hoop, hoops.size());
        in(what, 0, 1);
        int[] best = {-1, -1};
        for (int child = children.size() - 1; child >= 0; child--) {
            int lasting = lasting(hoop, child, now.tired[child]);
            if (best[0] == -1 || lasting <= best[1]) {
                best = new int[] {child, lasting};
            }
        }
        return best[what];
    }

    int debtor(int what) {
        in(what, 0, 1);
        int[] best = {-1, -1};
        for (int child = children.size() - 1; child >= 0; child--) {
            if (now.owes[child] > 0 && now.owes[child] >= best[1]) {
                best = new int[] {child, now.owes[child]};
            }
        }
        return best[what];
    }

    int idle() {
        int bits = (1 << children.size()) - 1;
        for (int owner : now.owner) {
            bits &= owner == -1 ? -1 : ~(1 << owner);
        }
        return bits;
    }

    int bowls(int child, int n) {
        one(child, children.size());
        in(n, 0, 200);
        State s = now.copy();
        int many = 0;
        for (int rolls = 0; rolls < n && !stands(s); rolls++) {
            many += s.owner[s.hour] == child ? 1 : 0;
            roll(s, 0);
        }
        return many;
    }

    int load(int child) {
        one(child, children.size());
        int sum = 0;
        for (int hoop = 0; hoop < hoops.size(); hoop++) {
            sum += now.owner[hoop] == child ? hoops.get(hoop) : 0;
        }
        return sum;
    }

    int slowest(int what) {
        in(what, 0, 1);
        int[] best = {-1, -1};
        for (int hoop = hoops.size() - 1; hoop >= 0; hoop--) {
            int child = now.owner[hoop];
            if (child != -1 && lasting(hoop, child, now.tired[child]) >= best[1]) {
                best = new int[] {hoop, lasting(hoop, child, now.tired[child])};
            }
        }
        return best[what];
    }

    private int[] passDays(int seed, int rolls, int q) {
        State s = now.copy();
        int[] all = new int[4];
        long drawn = seed;
        for (int i = 0; i < rolls && !stands(s); i++) {
            drawn = (drawn * 1103515245 + 12345) & 0xffffffffL;
            s.rain = (drawn >> 16 & 0x7fff) % 16 < q ? 1 : 0;
            drawn = (drawn * 1103515245 + 12345) & 0xffffffffL;
            int fall = (drawn >> 16 & 0x7fff) % 16 < walks.get(s.gate)[1] ? 1 : 0;
            all[0] += roll(s, 5 * fall);
            all[1] += fall;
            all[2] += s.rain;
        }
        all[3] = s.fines() - now.fines();
        return all;
    }

    int days(int seed, int rolls, int q, int what) {
        in(rolls, 1, 200);
        in(q, 0, 16);
        in(what, 0, 3);
        return passDays(seed, rolls, q)[what];
    }

    int span(int seed, int many, int rolls, int q, int what) {
        in(many, 1, 20);
        in(rolls, 1, 200);
        in(q, 0, 16);
        in(what, 0, 2);
        int[] all = {Integer.MAX_VALUE, 0, 0};
        for (int i = 0; i < many; i++) {
            int[] one = passDays(seed + i, rolls, q);
            all[0] = Math.min(all[0], one[0]);
            all[1] = Math.max(all[1], one[0]);
            all[2] += one[1] == 0 ? 1 : 0;
        }
        return all[what];
    }

    int image() {
        if (imageStates.size() == 3) {
            return -1;
        }
        imageStates.add(now.copy());
        List<State> kept = new ArrayList<>();
        for (State s : past) {
            kept.add(s.copy());
        }
        imagePasts.add(kept);
        return imageStates.size();
    }

    int restore() {
        if (imageStates.isEmpty()) {
            return -1;
        }
        now = imageStates.remove(imageStates.size() - 1);
        past = imagePasts.remove(imagePasts.size() - 1);
        refusedSteps = 0;
        return imageStates.size();
    }

    int status(int what) {
        return what == 0 || what == 1 ? refusedCalls[what] : -1;
    }

    int count(int what) {
        int[] all = {imageStates.size(), tape.length(), past.size()};
        return what >= 0 && what < 3 ? all[what] : -1;
    }
}

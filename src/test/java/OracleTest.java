import java.util.ArrayList;
import java.util.Arrays;
import java.util.Comparator;
import java.util.List;
import java.util.Random;
import java.util.regex.Matcher;
import java.util.regex.Pattern;

/**
 * Random runs, every answer of which is held against a second program that was written
 * from the document in the slowest and plainest way: all rows, all ways, all orders.
 */
public final class OracleTest {
    private static final int RUNS = 500;
    private static final int CALLS = 160;
    private static final int MOST_TOLD = 20;
    private static int wrong = 0;

    public static void main(String[] args) {
        for (int run = 0; run < RUNS; run++) {
            new Run(run).go();
        }
        System.out.println(wrong == 0 ? "all random runs agree" : wrong + " answers differ");
        if (wrong != 0) {
            System.exit(1);
        }
    }

    /** One object and its slow twin under the same calls. */
    private static final class Run {
        private final int number;
        private final Random random;
        private final LastForemost x = new LastForemost();
        private final Slow slow = new Slow();

        Run(int number) {
            this.number = number;
            this.random = new Random(7919L * number + 1);
        }

        void go() {
            int calls = 1;
            // Two thirds of the runs begin with people, or hardly any text would be well.
            if (number % 3 != 0) {
                calls += typePeople();
            }
            while (calls < CALLS) {
                call();
                calls++;
            }
            same("digest()", x.digest(), slow.digest());
        }

        private void same(String call, long got, long want) {
            if (got != want) {
                wrong++;
                if (wrong <= MOST_TOLD) {
                    System.out.println("run " + number + ": " + call + " answered " + got
                        + ", due is " + want);
                }
            }
        }

        private int typePeople() {
            int n = 1 + random.nextInt(number % 5 == 1 ? 7 : 5);
            StringBuilder text = new StringBuilder();
            for (int p = 0; p < n; p++) {
                int minute = random.nextInt(4) == 0 ? 50 + random.nextInt(10) : random.nextInt(60);
                text.append(p == 0 ? "" : ";").append(minute / 10).append(minute % 10)
                    .append(random.nextInt(7));
            }
            for (int i = 0; i < text.length(); i++) {
                type(text.charAt(i));
            }
            return text.length();
        }

        private void type(int b) {
            same("type(" + b + ")", x.type(b), slow.type(b));
        }

        /** A number from least to most, now and then just beside. */
        private int some(int least, int most) {
            int chance = random.nextInt(40);
            if (chance == 0) {
                return least - 1;
            }
            if (chance == 1) {
                return most + 1;
            }
            if (chance == 2) {
                return random.nextInt();
            }
            return least + random.nextInt(most - least + 1);
        }

        private int someByte() {
            String likely = "0123456;;;;";
            return random.nextInt(12) == 0 ? some(0, 255)
                : likely.charAt(random.nextInt(likely.length()));
        }

        private int somebody() {
            return some(0, random.nextInt(4) == 0 || slow.count() == 0 ? 6 : slow.count() - 1);
        }

        private void call() {
            int which = random.nextInt(100);
            if (which < 30) {
                change();
            } else if (which < 60) {
                ask();
            } else if (which < 75) {
                tell();
            } else {
                sheets();
            }
        }

        private void change() {
            int p = somebody();
            int q = somebody();
            switch (random.nextInt(9)) {
                case 0:
                    if (number % 3 == 0 || random.nextInt(60) == 0) {
                        type(someByte());
                    }
                    break;
                case 1:
                    if (random.nextInt(30) == 0) {
                        same("wipe()", x.wipe(), slow.wipe());
                        typePeople();
                    }
                    break;
                case 2: case 3: {
                    int v = some(0, 59);
                    same("waits(" + p + ", " + v + ")", x.waits(p, v), slow.waits(p, v));
                    break;
                }
                case 4: case 5: {
                    int m = some(0, 59);
                    int v = some(0, 1);
                    same("rain(" + m + ", " + v + ")", x.rain(m, v), slow.rain(m, v));
                    break;
                }
                case 6: {
                    int what = some(0, 5);
                    int[] most = {60, 1, 4, 9, 9, 15};
                    int v = some(0, most[Math.floorMod(what, 6)]);
                    same("set(" + what + ", " + v + ")", x.set(what, v), slow.set(what, v));
                    break;
                }
                case 7: {
                    int v = some(0, 20);
                    same("love(" + p + ", " + q + ", " + v + ")", x.love(p, q, v),
                        slow.love(p, q, v));
                    break;
                }
                default: {
                    int s = some(0, 3);
                    same("read(" + s + ")", x.read(s), slow.read(s));
                    break;
                }
            }
        }

        private void ask() {
            int p = somebody();
            int q = somebody();
            int what = some(0, 1);
            switch (random.nextInt(12)) {
                case 0: {
                    int w = some(0, 3);
                    same("person(" + p + ", " + w + ")", x.person(p, w), slow.person(p, w));
                    break;
                }
                case 1:
                    same("fault()", x.fault(), slow.fault());
                    break;
                case 2:
                    same("seat(" + p + ")", x.seat(p), slow.seat(p));
                    break;
                case 3: {
                    int s = some(0, 6);
                    same("who(" + s + ")", x.who(s), slow.who(s));
                    break;
                }
                case 4:
                    same("has(" + p + ")", x.has(p), slow.has(p));
                    break;
                case 5:
                    same("best(" + p + ", " + what + ")", x.best(p, what), slow.best(p, what));
                    break;
                case 6:
                    // The twin needs long for six.
                    if (slow.count() < 6 || random.nextInt(20) == 0) {
                        int r = random.nextBoolean() ? p : -1;
                        same("rest(" + r + ")", x.rest(r), slow.rest(r));
                    }
                    break;
                case 7:
                    same("change(" + p + ", " + q + ")", x.change(p, q), slow.change(p, q));
                    break;
                case 8:
                    same("changes()", x.changes(), slow.changes());
                    break;
                case 9:
                    same("churches(" + what + ")", x.churches(what), slow.churches(what));
                    break;
                case 10: {
                    int w = some(0, 8);
                    same("count(" + w + ")", x.count(w), slow.count(w));
                    break;
                }
                default: {
                    int seed = random.nextInt();
                    same("lot(" + seed + ", " + p + ")", x.lot(seed, p), slow.lot(seed, p));
                    break;
                }
            }
        }

        private void tell() {
            int p = somebody();
            int q = somebody();
            int what = some(0, 1);
            switch (random.nextInt(9)) {
                case 0: {
                    int s = random.nextBoolean() ? somebody() : some(0, 6);
                    same("sat(" + p + ", " + s + ")", x.sat(p, s), slow.sat(p, s));
                    break;
                }
                case 1:
                    same("front(" + p + ", " + q + ")", x.front(p, q), slow.front(p, q));
                    break;
                case 2:
                    if (random.nextInt(2) == 0) {
                        same("forget()", x.forget(), slow.forget());
                    }
                    break;
                case 3: {
                    int c = random.nextBoolean() ? p : -1;
                    same("came(" + c + ")", x.came(c), slow.came(c));
                    break;
                }
                case 4:
                    same("sure()", x.sure(), slow.sure());
                    break;
                case 5:
                    same("fair(" + p + ", " + what + ")", x.fair(p, what), slow.fair(p, what));
                    break;
                case 6:
                    same("sunday(" + p + ", " + what + ")", x.sunday(p, what),
                        slow.sunday(p, what));
                    break;
                case 7:
                    same("late(" + p + ", " + what + ")", x.late(p, what), slow.late(p, what));
                    break;
                default:
                    same("allLate(" + what + ")", x.allLate(what), slow.allLate(what));
                    break;
            }
        }

        private void sheets() {
            int s = some(0, 3);
            int form = some(0, 2);
            int i = some(0, 8);
            switch (random.nextInt(6)) {
                case 0: {
                    int n = random.nextInt(6) == 0 ? some(0, 60) : some(0, 9);
                    same("sheet(" + s + ", " + form + ", " + n + ")", x.sheet(s, form, n),
                        slow.sheet(s, form, n));
                    break;
                }
                case 1:
                    if (random.nextInt(4) == 0) {
                        same("lose(" + s + ")", x.lose(s), slow.lose(s));
                    }
                    break;
                case 2: {
                    int f = slow.likelyForm(s, form);
                    int v = random.nextInt(3) == 0 ? random.nextInt() : some(0, 59);
                    same("lay(" + s + ", " + f + ", " + i + ", " + v + ")", x.lay(s, f, i, v),
                        slow.lay(s, f, i, v));
                    break;
                }
                case 3: {
                    int f = slow.likelyForm(s, form);
                    same("get(" + s + ", " + f + ", " + i + ")", x.get(s, f, i),
                        slow.get(s, f, i));
                    break;
                }
                case 4: {
                    int t = some(0, 3);
                    int j = some(0, 4);
                    int n = some(0, 4);
                    same("copy(" + s + ", " + i + ", " + t + ", " + j + ", " + n + ")",
                        x.copy(s, i, t, j, n), slow.copy(s, i, t, j, n));
                    break;
                }
                default:
                    same("write(" + s + ")", x.write(s), slow.write(s));
                    break;
            }
            same("count(8)", x.count(8), slow.count(8));
        }
    }

    /** The document, word by word, without a thought for speed. */
    private static final class Slow {
        private static final Pattern ENDED =
            Pattern.compile("(?:[0-5][0-9][0-6](?:;[0-5][0-9][0-6])*)?");
        private final StringBuilder text = new StringBuilder();
        private final int[] minutes = new int[7];
        private final int[] wishes = new int[7];
        private int count = 0;
        private final int[] waits = new int[7];
        private final boolean[] rain = new boolean[60];
        private int bell = 60, law = 0, wide = 2, care = 2, soak = 1, step = 5;
        private final int[][] love = new int[7][7];
        private final List<int[]> facts = new ArrayList<>();
        private final List<int[]> sundays = new ArrayList<>();
        private final Object[] sheets = new Object[4];
        private int finding = 0;

        int type(int b) {
            if (b < 0 || b > 255) {
                return -2;
            }
            if (text.length() == 40) {
                return -4;
            }
            text.append((char) b);
            split();
            return text.length();
        }

        int wipe() {
            int had = text.length();
            text.setLength(0);
            split();
            return had;
        }

        int fault() {
            for (int i = 0; i < text.length(); i++) {
                Matcher start = ENDED.matcher(text.substring(0, i + 1));
                boolean goesOn = start.matches() || start.hitEnd();
                if (!goesOn || i == 28) {
                    return i;
                }
            }
            return ENDED.matcher(text).matches() ? -1 : text.length();
        }

        private void split() {
            boolean some = fault() == -1 && text.length() > 0;
            String[] each = some ? text.toString().split(";") : new String[0];
            count = each.length;
            for (int p = 0; p < count; p++) {
                minutes[p] = Integer.parseInt(each[p].substring(0, 2));
                wishes[p] = Integer.parseInt(each[p].substring(2));
            }
        }

        int count() {
            return count;
        }

        private boolean there(int p) {
            return p >= 0 && p < count();
        }

        private static boolean number(int p) {
            return p >= 0 && p <= 6;
        }

        private int minute(int p) {
            return minutes[p];
        }

        private int wish(int p) {
            return wishes[p];
        }

        private int goesIn(int p, int wait) {
            return Math.min(59, minute(p) + wait);
        }

        private int wet(int p, int wait) {
            int wet = 0;
            for (int m = minute(p); m < goesIn(p, wait); m++) {
                wet += rain[m] ? 1 : 0;
            }
            return wet;
        }

        int person(int p, int what) {
            if (!there(p) || what < 0 || what > 3) {
                return -2;
            }
            return what == 0 ? minute(p) : what == 1 ? wish(p)
                : what == 2 ? goesIn(p, waits[p]) : wet(p, waits[p]);
        }

        int waits(int p, int v) {
            if (!number(p) || v < 0 || v > 59) {
                return -2;
            }
            int was = waits[p];
            waits[p] = v;
            return was;
        }

        int rain(int m, int v) {
            if (m < 0 || m > 59 || v < 0 || v > 1) {
                return -2;
            }
            int was = rain[m] ? 1 : 0;
            rain[m] = v == 1;
            return was;
        }

        int set(int what, int v) {
            int was;
            switch (what) {
                case 0:
                    if (v < 0 || v > 60) {
                        return -2;
                    }
                    was = bell;
                    bell = v;
                    return was;
                case 1:
                    if (v < 0 || v > 1) {
                        return -2;
                    }
                    was = law;
                    law = v;
                    return was;
                case 2:
                    if (v < 1 || v > 4) {
                        return -2;
                    }
                    was = wide;
                    wide = v;
                    return was;
                case 3:
                    if (v < 0 || v > 9) {
                        return -2;
                    }
                    was = care;
                    care = v;
                    return was;
                case 4:
                    if (v < 0 || v > 9) {
                        return -2;
                    }
                    was = soak;
                    soak = v;
                    return was;
                case 5:
                    if (v < 1 || v > 15) {
                        return -2;
                    }
                    was = step;
                    step = v;
                    return was;
                default:
                    return -2;
            }
        }

        int love(int a, int b, int v) {
            if (!number(a) || !number(b) || a == b || v < 0 || v > 20) {
                return -2;
            }
            int was = love[a][b];
            love[a][b] = v;
            love[b][a] = v;
            return was;
        }

        int read(int s) {
            if (s < 0 || s > 3) {
                return -2;
            }
            if (sheets[s] == null) {
                return found(1);
            }
            int many = 0;
            for (int i = 0; i < size(s) && i < 7; i++) {
                if (item(s, i) < 0 || item(s, i) > 59) {
                    break;
                }
                waits[i] = item(s, i);
                many++;
            }
            return many;
        }

        /** Who goes to one church, each with a wait: the sitters from seat 0 on. */
        private List<Integer> sitters(int[] waiting, int churchLaw, List<Integer> members) {
            List<Integer> in = new ArrayList<>();
            for (int p : members) {
                if (goesIn(p, waiting[p]) < bell) {
                    in.add(p);
                }
            }
            Comparator<Integer> order = Comparator.comparingInt(p -> 10 * goesIn(p, waiting[p]) + p);
            in.sort(churchLaw == 0 ? order : order.reversed());
            return in;
        }

        private List<Integer> everybody() {
            List<Integer> all = new ArrayList<>();
            for (int p = 0; p < count(); p++) {
                all.add(p);
            }
            return all;
        }

        private List<Integer> now() {
            return sitters(waits, law, everybody());
        }

        private int dry(int p, List<Integer> sitters) {
            int seat = sitters.indexOf(p);
            if (seat == -1) {
                return 0;
            }
            int sum = 20 - care * Math.abs(seat - wish(p));
            for (int other = 0; other < sitters.size(); other++) {
                if (other != seat && other / wide == seat / wide) {
                    sum += love[p][sitters.get(other)];
                }
            }
            return sum;
        }

        private int worth(int p, int[] waiting) {
            return dry(p, sitters(waiting, law, everybody())) - soak * wet(p, waiting[p]);
        }

        int seat(int p) {
            return there(p) ? now().indexOf(p) : -2;
        }

        int who(int seat) {
            if (seat < 0 || seat > 6) {
                return -2;
            }
            return seat < now().size() ? now().get(seat) : -1;
        }

        int has(int p) {
            return there(p) ? worth(p, waits) : -10002;
        }

        int best(int p, int what) {
            if (!there(p) || what < 0 || what > 1) {
                return -10002;
            }
            int most = Integer.MIN_VALUE;
            int at = -1;
            for (int w = 0; w <= 59; w++) {
                int[] otherwise = waits.clone();
                otherwise[p] = w;
                int worth = worth(p, otherwise);
                if (worth > most) {
                    most = worth;
                    at = w;
                }
            }
            return what == 0 ? at : most;
        }

        /** Rows in order: those of the first number that wait least are ahead. */
        private List<int[]> restingRows() {
            int n = count();
            int rows = (int) Math.pow(4, n);
            int[][] worths = new int[rows][n];
            for (int r = 0; r < rows; r++) {
                for (int p = 0; p < n; p++) {
                    int[] waiting = row(r, n);
                    for (int q = 0; q < n; q++) {
                        waiting[q] *= step;
                    }
                    worths[r][p] = worth(p, waiting);
                }
            }
            List<int[]> good = new ArrayList<>();
            for (int r = 0; r < rows; r++) {
                boolean leaves = false;
                for (int p = 0; p < n; p++) {
                    for (int c = 0; c < 4; c++) {
                        int[] otherwise = row(r, n);
                        otherwise[p] = c;
                        leaves |= worths[rowNumber(otherwise, n)][p] > worths[r][p];
                    }
                }
                if (!leaves) {
                    good.add(row(r, n));
                }
            }
            return good;
        }

        private static int[] row(int r, int n) {
            int[] row = new int[7];
            int left = r;
            for (int p = n - 1; p >= 0; p--) {
                row[p] = left % 4;
                left /= 4;
            }
            return row;
        }

        private static int rowNumber(int[] row, int n) {
            int r = 0;
            for (int p = 0; p < n; p++) {
                r = 4 * r + row[p];
            }
            return r;
        }

        int rest(int p) {
            if (p != -1 && !there(p)) {
                return -2;
            }
            if (count() > 6) {
                return -4;
            }
            List<int[]> rows = restingRows();
            return p == -1 ? rows.size() : rows.isEmpty() ? -1 : rows.get(0)[p];
        }

        int change(int a, int b) {
            if (!there(a) || !there(b) || a == b) {
                return -2;
            }
            List<Integer> now = now();
            int seatA = now.indexOf(a);
            int seatB = now.indexOf(b);
            if (seatA == -1 || seatB == -1) {
                return -3;
            }
            List<Integer> then = new ArrayList<>(now);
            then.set(seatA, b);
            then.set(seatB, a);
            return dry(a, then) > dry(a, now) && dry(b, then) > dry(b, now) ? 1 : 0;
        }

        int changes() {
            int pairs = 0;
            for (int a = 0; a < count(); a++) {
                for (int b = 0; b < a; b++) {
                    pairs += change(a, b) == 1 ? 1 : 0;
                }
            }
            return pairs;
        }

        private int worthByWay(int p, int way) {
            int own = way >> p & 1;
            List<Integer> members = new ArrayList<>();
            for (int q : everybody()) {
                if ((way >> q & 1) == own) {
                    members.add(q);
                }
            }
            return dry(p, sitters(waits, own, members)) - soak * wet(p, waits[p]);
        }

        int churches(int what) {
            if (what < 0 || what > 1) {
                return -2;
            }
            int many = 0;
            int least = -1;
            for (int way = (1 << count()) - 1; way >= 0; way--) {
                boolean stays = true;
                for (int p : everybody()) {
                    stays &= worthByWay(p, way ^ 1 << p) <= worthByWay(p, way);
                }
                if (stays) {
                    many++;
                    least = way;
                }
            }
            return what == 0 ? many : least;
        }

        int sat(int p, int seat) {
            if (!number(p) || !number(seat)) {
                return -2;
            }
            if (facts.size() == 8) {
                return -4;
            }
            facts.add(new int[] {p, seat});
            return facts.size();
        }

        int front(int a, int b) {
            if (!number(a) || !number(b) || a == b) {
                return -2;
            }
            if (facts.size() == 8) {
                return -4;
            }
            facts.add(new int[] {a, b, 1});
            return facts.size();
        }

        int forget() {
            int had = facts.size();
            facts.clear();
            return had;
        }

        private static void allOrders(List<Integer> left, List<Integer> come,
                List<List<Integer>> into) {
            if (left.isEmpty()) {
                into.add(new ArrayList<>(come));
            }
            for (int i = 0; i < left.size(); i++) {
                int p = left.remove(i);
                come.add(p);
                allOrders(left, come, into);
                come.remove(come.size() - 1);
                left.add(i, p);
            }
        }

        private List<List<Integer>> allOrders() {
            List<List<Integer>> all = new ArrayList<>();
            allOrders(everybody(), new ArrayList<>(), all);
            return all;
        }

        private int seatOf(int p, List<Integer> order) {
            int place = order.indexOf(p);
            return place == -1 ? -1 : law == 0 ? place : order.size() - 1 - place;
        }

        private List<List<Integer>> fittingOrders() {
            List<List<Integer>> all = allOrders();
            all.removeIf(order -> {
                for (int[] fact : facts) {
                    int seat = seatOf(fact[0], order);
                    boolean fits = fact.length == 2 ? seat == fact[1]
                        : seatOf(fact[1], order) != -1 && seat > seatOf(fact[1], order);
                    if (seat == -1 || !fits) {
                        return true;
                    }
                }
                return false;
            });
            return all;
        }

        int came(int p) {
            if (p != -1 && !there(p)) {
                return -2;
            }
            List<List<Integer>> fitting = fittingOrders();
            if (p == -1) {
                return fitting.size();
            }
            int bits = 0;
            for (List<Integer> order : fitting) {
                bits |= 1 << order.indexOf(p);
            }
            return bits;
        }

        int sure() {
            List<List<Integer>> fitting = fittingOrders();
            int pairs = 0;
            for (int a = 0; a < count(); a++) {
                for (int b = 0; b < a; b++) {
                    int first = 0;
                    for (List<Integer> order : fitting) {
                        first += order.indexOf(a) < order.indexOf(b) ? 1 : 0;
                    }
                    pairs += !fitting.isEmpty() && (first == 0 || first == fitting.size()) ? 1 : 0;
                }
            }
            return pairs;
        }

        private static long part(long above, long below, int what) {
            long a = above;
            long b = below;
            for (long d = Math.min(Math.abs(above), below); d >= 2; d--) {
                if (a % d == 0 && b % d == 0) {
                    a /= d;
                    b /= d;
                    break;
                }
            }
            return what == 0 ? a : above == 0 ? 1 : b;
        }

        long fair(int p, int what) {
            if (!there(p) || what < 0 || what > 1) {
                return Long.MIN_VALUE + 2;
            }
            long sum = 0;
            List<List<Integer>> all = allOrders();
            for (List<Integer> order : all) {
                List<Integer> seats = new ArrayList<>(order);
                for (int q : order) {
                    seats.set(seatOf(q, order), q);
                }
                sum += dry(p, seats);
            }
            return part(sum, all.size(), what);
        }

        int lot(int seed, int p) {
            if (!there(p)) {
                return -2;
            }
            List<Integer> left = everybody();
            int state = seed;
            int drawn = -1;
            for (int q = 0; q <= p; q++) {
                state = state * 1103515245 + 12345;
                long upper = (state & 0xffffffffL) / 65536;
                drawn = left.remove((int) (upper % left.size()));
            }
            return drawn;
        }

        int sunday(int p, int late) {
            if (!number(p) || late < 0 || late > 1) {
                return -2;
            }
            if (sundays.size() == 60) {
                return -4;
            }
            sundays.add(new int[] {p, late});
            return (int) sundays.stream().filter(s -> s[0] == p).count();
        }

        private long lates(int p) {
            return 1 + sundays.stream().filter(s -> s[0] == p && s[1] == 1).count();
        }

        private long told(int p) {
            return 2 + sundays.stream().filter(s -> s[0] == p).count();
        }

        long late(int p, int what) {
            if (!number(p) || what < 0 || what > 1) {
                return Long.MIN_VALUE + 2;
            }
            return part(lates(p), told(p), what);
        }

        long allLate(int what) {
            if (what < 0 || what > 1) {
                return Long.MIN_VALUE + 2;
            }
            long above = 1;
            long below = 1;
            for (int p : everybody()) {
                long a = above * lates(p);
                long b = below * told(p);
                above = part(a, b, 0);
                below = part(a, b, 1);
            }
            return what == 0 ? above : below;
        }

        private int found(int number) {
            finding = number;
            return -10 - number;
        }

        private static int formOf(Object sheet) {
            return sheet instanceof byte[] ? 0 : sheet instanceof short[] ? 1 : 2;
        }

        int likelyForm(int s, int otherwise) {
            boolean known = s >= 0 && s <= 3 && sheets[s] != null;
            return known && otherwise != 1 ? formOf(sheets[s]) : otherwise;
        }

        private int size(int s) {
            return java.lang.reflect.Array.getLength(sheets[s]);
        }

        private int item(int s, int i) {
            return java.lang.reflect.Array.getInt(sheets[s], i);
        }

        private void put(int s, int i, int v) {
            Object sheet = sheets[s];
            if (sheet instanceof byte[]) {
                ((byte[]) sheet)[i] = (byte) v;
            } else if (sheet instanceof short[]) {
                ((short[]) sheet)[i] = (short) v;
            } else {
                ((int[]) sheet)[i] = v;
            }
        }

        int sheet(int s, int form, int n) {
            if (s < 0 || s > 3 || form < 0 || form > 2 || n > 60) {
                return -2;
            }
            if (n < 0) {
                return found(5);
            }
            sheets[s] = form == 0 ? new byte[n] : form == 1 ? new short[n] : new int[n];
            return n;
        }

        int lose(int s) {
            if (s < 0 || s > 3) {
                return -2;
            }
            if (sheets[s] == null) {
                return found(1);
            }
            int had = size(s);
            sheets[s] = null;
            return had;
        }

        private int access(int s, int form, int i) {
            if (s < 0 || s > 3 || form < 0 || form > 2) {
                return -2;
            }
            if (sheets[s] == null) {
                return found(1);
            }
            if (formOf(sheets[s]) != form) {
                return found(3);
            }
            return i < 0 || i >= size(s) ? found(2) : 1;
        }

        int lay(int s, int form, int i, int v) {
            int access = access(s, form, i);
            if (access == 1) {
                put(s, i, v);
            }
            return access;
        }

        int get(int s, int form, int i) {
            return access(s, form, i) == 1 ? item(s, i) : Integer.MIN_VALUE;
        }

        int copy(int s, int i, int t, int j, int n) {
            if (s < 0 || s > 3 || t < 0 || t > 3) {
                return -2;
            }
            try {
                System.arraycopy(sheets[s], i, sheets[t], j, n);
                return 1;
            } catch (NullPointerException e) {
                return found(1);
            } catch (ArrayStoreException e) {
                return found(4);
            } catch (IndexOutOfBoundsException e) {
                return found(2);
            }
        }

        int write(int s) {
            if (s < 0 || s > 3) {
                return -2;
            }
            if (sheets[s] == null) {
                return found(1);
            }
            int many = 0;
            for (int p = 0; p < count() && p < size(s); p++) {
                put(s, p, seat(p));
                many++;
            }
            return many;
        }

        int count(int what) {
            switch (what) {
                case 0: return count();
                case 1: return text.length();
                case 2: return count() - now().size();
                case 3: {
                    int wet = 0;
                    for (boolean r : rain) {
                        wet += r ? 1 : 0;
                    }
                    return wet;
                }
                case 4: return facts.size();
                case 5: return sundays.size();
                case 6: {
                    boolean[] pews = new boolean[7];
                    for (int s = 0; s < now().size(); s++) {
                        pews[s / wide] = true;
                    }
                    int many = 0;
                    for (boolean pew : pews) {
                        many += pew ? 1 : 0;
                    }
                    return many;
                }
                case 7: return bell;
                case 8: return finding;
                default: return -2;
            }
        }

        long digest() {
            List<Long> all = new ArrayList<>();
            for (int what = 0; what <= 7; what++) {
                all.add((long) count(what));
            }
            all.add((long) fault());
            List<int[]> rows = count() > 6 ? null : restingRows();
            for (int p = 0; p < count(); p++) {
                for (int what = 0; what <= 3; what++) {
                    all.add((long) person(p, what));
                }
                int steps = rows == null ? -4 : rows.isEmpty() ? -1 : rows.get(0)[p];
                all.addAll(Arrays.asList((long) seat(p), (long) has(p), (long) best(p, 0),
                    (long) best(p, 1), (long) steps, (long) came(p), fair(p, 0), fair(p, 1),
                    late(p, 0), late(p, 1), (long) lot(7, p)));
            }
            for (int seat = 0; seat <= 6; seat++) {
                all.add((long) who(seat));
            }
            all.addAll(Arrays.asList((long) (rows == null ? -4 : rows.size()), (long) changes(),
                (long) churches(0), (long) churches(1), (long) came(-1), (long) sure(),
                allLate(0), allLate(1)));
            long h = 17;
            for (long one : all) {
                h = 31 * h + one;
            }
            return h;
        }
    }
}

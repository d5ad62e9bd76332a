import java.util.ArrayDeque;
import java.util.ArrayList;
import java.util.Arrays;
import java.util.Comparator;
import java.util.HashMap;
import java.util.List;
import java.util.Map;
import java.util.NoSuchElementException;
import java.util.Random;

/**
 * Many runs of calls with fixed seeds, each answer compared with that of a second program,
 * which is written straight from the document by other means (trying all, memo tables, sets).
 */
public final class OracleRuns {
    static final String[] CALLS = {
        "told 1", "partner 2", "cost 2", "fits 2", "way 0", "wayAt 1", "wayFrom 2", "phases 1", "phased 1", "most 0",
        "reached 1", "cover 1", "of 3", "fit 2", "fitMany 1", "lack 1", "hall 1", "many 0", "cheap 1", "cheapest 1",
        "narrow 0", "more 1", "fewest 1", "chosen 1", "rounds 0", "round 2", "add 3", "drop 2", "is 3", "pair 2",
        "part 1", "weight 2", "trade 0", "keep 1", "settle 1", "undo 0", "print 0", "status 1", "feed 5", "text 1",
        "fault 0"};

    static long ask(PairKeeper x, String name, int[] a) {
        switch (name) {
            case "told": return x.told(a[0]);
            case "partner": return x.partner(a[0], a[1]);
            case "cost": return x.cost(a[0], a[1]);
            case "fits": return x.fits(a[0], a[1]);
            case "way": return x.way();
            case "wayAt": return x.wayAt(a[0]);
            case "wayFrom": return x.wayFrom(a[0], a[1]);
            case "phases": return x.phases(a[0]);
            case "phased": return x.phased(a[0]);
            case "most": return x.most();
            case "reached": return x.reached(a[0]);
            case "cover": return x.cover(a[0]);
            case "of": return x.of(a[0], a[1], a[2]);
            case "fit": return x.fit(a[0], a[1]);
            case "fitMany": return x.fitMany(a[0]);
            case "lack": return x.lack(a[0]);
            case "hall": return x.hall(a[0]);
            case "many": return x.many();
            case "cheap": return x.cheap(a[0]);
            case "cheapest": return x.cheapest(a[0]);
            case "narrow": return x.narrow();
            case "more": return x.more(a[0]);
            case "fewest": return x.fewest(a[0]);
            case "chosen": return x.chosen(a[0]);
            case "rounds": return x.rounds();
            case "round": return x.round(a[0], a[1]);
            case "add": return x.add(a[0], a[1], a[2]);
            case "drop": return x.drop(a[0], a[1]);
            case "is": return x.is(a[0], a[1], a[2]);
            case "pair": return x.pair(a[0], a[1]);
            case "part": return x.part(a[0]);
            case "weight": return x.weight(a[0], a[1]);
            case "trade": return x.trade();
            case "keep": return x.keep(a[0]);
            case "settle": return x.settle(a[0]);
            case "undo": return x.undo();
            case "print": return x.print();
            case "status": return x.status(a[0]);
            case "feed": return x.feed(a[0], a[1], a[2], a[3], a[4]);
            case "text": return x.text(a[0]);
            case "fault": return x.fault();
            default: throw new IllegalStateException(name);
        }
    }

    static String answer(PairKeeper x, String name, int[] a) {
        try {
            return Long.toString(ask(x, name, a));
        } catch (NoSuchElementException e) {
            return e.getClass() == NoSuchElementException.class ? "NSEE" : e.toString();
        } catch (IllegalArgumentException e) {
            return e.getClass() == IllegalArgumentException.class ? "IAE" : e.toString();
        } catch (RuntimeException e) {
            return e.toString();
        }
    }

    static String answer(Oracle x, String name, int[] a) {
        try {
            return Long.toString(x.ask(name, a));
        } catch (NoSuchElementException e) {
            x.noPlace++;
            return "NSEE";
        } catch (IllegalArgumentException e) {
            x.noArgument++;
            return "IAE";
        }
    }

    public static void main(String[] args) {
        int runs = args.length > 0 ? Integer.parseInt(args[0]) : 3000;
        int wrong = 0;
        long calls = 0;
        int[] good = new int[CALLS.length];
        int[] bad = new int[CALLS.length];
        Map<String, Integer> texts = new HashMap<>();
        for (int run = 0; run < runs && wrong < 10; run++) {
            Random random = new Random(run);
            Driver driver = new Driver(random, run % 10 == 0 ? 12 : run % 3 == 0 ? 6 : 4, run % 4 == 0);
            PairKeeper x = new PairKeeper();
            Oracle o = new Oracle(driver.size <= 4);
            List<String> log = new ArrayList<>();
            for (int n = 0; n < 512; n++) {
                driver.next(o);
                String got = answer(x, driver.name, driver.arguments);
                String want = answer(o, driver.name, driver.arguments);
                calls++;
                log.add(driver.name + Arrays.toString(driver.arguments) + " = " + got);
                boolean thrown = want.equals("NSEE") || want.equals("IAE");
                (thrown ? bad : good)[driver.index]++;
                if (driver.name.equals("text") && !thrown) {
                    String kind = Integer.parseInt(want) >= 0 ? "good" : want;
                    texts.merge(kind, 1, Integer::sum);
                }
                if (!got.equals(want)) {
                    wrong++;
                    System.out.println("run " + run + " call " + n + ": " + log.get(log.size() - 1) + ", due is " + want);
                    System.out.println("  " + o.show());
                    break;
                }
            }
        }
        for (int k = 0; k < CALLS.length; k++) {
            if (good[k] == 0 && runs > 100) {
                wrong++;
                System.out.println("never asked well: " + CALLS[k]);
            }
        }
        for (String kind : new String[] {"good", "-9", "-8", "-7", "-6", "-5"}) {
            if (!texts.containsKey(kind) && runs > 100) {
                wrong++;
                System.out.println("no text with " + kind);
            }
        }
        System.out.println(runs + " runs, " + calls + " calls, texts " + texts + ", " + wrong + " wrong");
        if (wrong != 0) {
            System.exit(1);
        }
    }

    /** Makes up calls: mostly sensible ones, some that must be refused. */
    static final class Driver {
        final Random random;
        final int size;
        final ArrayDeque<int[]> meals = new ArrayDeque<>();
        int index;
        String name;
        int[] arguments;
        int textLength = -1;
        /** How many FITS come ahead of all else, for thick nets. */
        int rush;

        Driver(Random random, int size, boolean thick) {
            this.random = random;
            this.size = size;
            if (thick) {
                queue("workers" + size + ";tasks" + (size - upTo(2)) + ";keep" + upTo(2) + ";");
                rush = upTo(size * size + 20);
            } else {
                queueText();
            }
        }

        int upTo(int n) {
            return random.nextInt(n);
        }

        void next(Oracle o) {
            if (!meals.isEmpty()) {
                set("feed", meals.poll());
                return;
            }
            if (textLength >= 0) {
                set("text", textLength);
                textLength = -1;
                return;
            }
            if (rush > 0) {
                rush--;
                set("add", upTo(o.n), upTo(o.m), upTo(rush % 2 == 0 ? 4 : 100));
                return;
            }
            if (upTo(60) == 0 && o.tape.isEmpty()) {
                queueText();
                next(o);
                return;
            }
            index = upTo(CALLS.length);
            String[] parts = CALLS[index].split(" ");
            if (parts[0].equals("feed") && upTo(4) != 0 || parts[0].equals("text") && upTo(4) != 0) {
                index = upTo(38);
                parts = CALLS[index].split(" ");
            }
            int[] a = new int[Integer.parseInt(parts[1])];
            for (int k = 0; k < a.length; k++) {
                a[k] = upTo(40) == 0 ? strange() : sensible(o, parts[0], k, a);
            }
            set(parts[0], a);
        }

        int strange() {
            int[] all = {-1, -2, 2, 3, 4, 12, 13, 15, 99, 100, 1 << 12, 1 << 13, 31, 32, 33,
                Integer.MAX_VALUE, Integer.MIN_VALUE, -100, 300, 301};
            return all[upTo(all.length)];
        }

        int sensible(Oracle o, String call, int k, int[] a) {
            int worker = upTo(o.n);
            int task = upTo(o.m);
            switch (call) {
                case "told": return upTo(12);
                case "phases": return upTo(4);
                case "wayAt": return upTo(o.theWay().size() + 1);
                case "reached": case "cover": case "hall": case "cheap": case "more": case "fewest": case "chosen":
                case "keep": return upTo(2);
                case "fitMany": return 1 + upTo(3);
                case "lack": return upTo(1 << o.n);
                case "status": return upTo(3);
                case "settle": return upTo(3) == 0 ? 1 + upTo(12) : 1 + upTo(3);
                case "feed": return random.nextInt();
                case "text": return upTo(o.tape.size() + 1);
                case "partner": case "fits":
                    return k == 0 ? upTo(2) : a[0] == 0 ? worker : task;
                case "of": return k == 0 ? upTo(2) : k == 1 ? (a[0] == 0 ? worker : task) : upTo(3);
                case "is":
                    if (k == 0) {
                        return upTo(2);
                    }
                    if (k == 1) {
                        return a[0] == 0 ? worker : task;
                    }
                    boolean now = a[0] == 0 && a[1] >= 0 && a[1] < o.n && o.workerThere[a[1]]
                        || a[0] == 1 && a[1] >= 0 && a[1] < o.m && o.taskThere[a[1]];
                    return upTo(8) == 0 ? upTo(2) : now ? 0 : 1;
                case "wayFrom": return k == 0 ? worker : upTo(2);
                case "weight": return k == 0 ? worker : upTo(2) == 0 ? upTo(100) : upTo(4);
                case "add": return k == 0 ? worker : k == 1 ? task : upTo(3) == 0 ? upTo(100) : upTo(5);
                case "pair": case "drop":
                    if (k == 1 && a[0] >= 0 && a[0] < o.n && upTo(8) != 0) {
                        for (int t = 0; t < o.m; t++) {
                            int near = (task + t) % o.m;
                            if (o.cost[a[0]][near] >= 0) {
                                return near;
                            }
                        }
                    }
                    return k == 0 ? worker : task;
                default: return k == 0 ? worker : task;
            }
        }

        void set(String call, int... a) {
            name = call;
            arguments = a;
            for (int k = 0; k < CALLS.length; k++) {
                if (CALLS[k].startsWith(call + " ")) {
                    index = k;
                }
            }
        }

        void queueText() {
            queue(upTo(6) == 0 ? spoil(makeText()) : makeText());
        }

        void queue(String whole) {
            String text = whole;
            if (text.length() > 300) {
                text = text.substring(0, 300);
            }
            textLength = upTo(20) == 0 ? upTo(text.length() + 1) : text.length();
            for (int at = 0; at < text.length(); at += 20) {
                int[] five = new int[5];
                for (int k = 0; k < 20; k++) {
                    int sign = at + k < text.length() ? text.charAt(at + k) : upTo(256);
                    five[k / 4] = five[k / 4] << 8 | sign;
                }
                meals.add(five);
            }
        }

        String blanks() {
            return upTo(12) == 0 ? "  " : upTo(5) == 0 ? " " : "";
        }

        String makeText() {
            int n = upTo(5) == 0 ? 1 + upTo(size) : Math.max(1, size - upTo(2));
            int m = upTo(5) == 0 ? 1 + upTo(size) : Math.max(1, size - upTo(2));
            StringBuilder b = new StringBuilder();
            b.append(blanks()).append("workers").append(blanks()).append(n).append(blanks()).append(";");
            b.append(blanks()).append("tasks").append(blanks()).append(m).append(";");
            int lines = upTo(size * 5);
            List<int[]> fits = new ArrayList<>();
            boolean wild = upTo(4) == 0;
            boolean kept = upTo(2) == 0;
            if (kept) {
                b.append("keep").append(upTo(3) == 0 ? 1 : 0).append(";");
            }
            for (int k = 0; k < lines && b.length() < 284; k++) {
                int w = upTo(n);
                int t = upTo(m);
                int what = upTo(20);
                b.append(blanks());
                if (what < 14) {
                    b.append("fit").append(blanks()).append(w).append(" ").append(t);
                    fits.add(new int[] {w, t});
                    if (upTo(2) == 0) {
                        b.append(" ").append(upTo(4) == 0 ? upTo(100) : upTo(6));
                    }
                } else if (what < 15) {
                    b.append("away").append(blanks());
                    b.append(upTo(2) == 0 ? "worker" + blanks() + w : "task" + blanks() + t);
                } else if (what < 18 && (!fits.isEmpty() || wild)) {
                    int[] f = wild || fits.isEmpty() ? new int[] {w, t} : fits.get(upTo(fits.size()));
                    b.append("pair ").append(f[0]).append(" ").append(f[1]);
                } else if (what < 19 || !wild) {
                    b.append("weight ").append(w).append(" ").append(upTo(100));
                } else {
                    b.append("keep").append(upTo(2));
                }
                b.append(blanks()).append(";");
            }
            return b.append(blanks()).toString();
        }

        String spoil(String text) {
            StringBuilder b = new StringBuilder(text);
            for (int k = 0; k <= upTo(3) && b.length() > 0; k++) {
                int at = upTo(b.length());
                switch (upTo(4)) {
                    case 0: b.deleteCharAt(at); break;
                    case 1: b.insert(at, "0123456789; fx-".charAt(upTo(15))); break;
                    case 2: b.setCharAt(at, (char) upTo(256)); break;
                    default: b.setCharAt(at, text.charAt(upTo(text.length()))); break;
                }
            }
            return b.toString();
        }
    }

    static final class Fault extends Exception {
        private static final long serialVersionUID = 1;
        final int kind;
        final int place;

        Fault(int kind, int place) {
            this.kind = kind;
            this.place = place;
        }
    }

    /** The second program. */
    static final class Oracle {
        final boolean small;
        int n = 1;
        int m = 1;
        int[][] cost = {{-1}};
        boolean[] workerThere = {true};
        boolean[] taskThere = {true};
        int[] weight = {1};
        int[] taskOf = {-1};
        int keeping = 1;
        List<Integer> tape = new ArrayList<>();
        List<Oracle> past = new ArrayList<>();
        int fault = -1;
        int noPlace;
        int noArgument;

        Oracle(boolean small) {
            this.small = small;
        }

        String show() {
            StringBuilder b = new StringBuilder("n " + n + " m " + m + " keep " + keeping + " pairs "
                + Arrays.toString(taskOf) + " workers " + Arrays.toString(workerThere) + " tasks "
                + Arrays.toString(taskThere) + " weights " + Arrays.toString(weight) + " fits");
            for (int w = 0; w < n; w++) {
                for (int t = 0; t < m; t++) {
                    if (cost[w][t] >= 0) {
                        b.append(" ").append(w).append("-").append(t).append(":").append(cost[w][t]);
                    }
                }
            }
            return b.toString();
        }

        void take(Oracle o) {
            n = o.n;
            m = o.m;
            cost = new int[n][];
            for (int w = 0; w < n; w++) {
                cost[w] = o.cost[w].clone();
            }
            workerThere = o.workerThere.clone();
            taskThere = o.taskThere.clone();
            weight = o.weight.clone();
            taskOf = o.taskOf.clone();
            keeping = o.keeping;
        }

        Oracle twin() {
            Oracle o = new Oracle(small);
            o.take(this);
            return o;
        }

        void begin(int workers, int tasks) {
            n = workers;
            m = tasks;
            cost = new int[n][m];
            for (int[] row : cost) {
                Arrays.fill(row, -1);
            }
            workerThere = new boolean[n];
            Arrays.fill(workerThere, true);
            taskThere = new boolean[m];
            Arrays.fill(taskThere, true);
            weight = new int[n];
            Arrays.fill(weight, 1);
            taskOf = new int[n];
            Arrays.fill(taskOf, -1);
            keeping = 1;
        }

        // ---- simple looks

        boolean usable(int w, int t) {
            return cost[w][t] >= 0 && workerThere[w] && taskThere[t];
        }

        int workerOf(int t) {
            for (int w = 0; w < n; w++) {
                if (taskOf[w] == t) {
                    return w;
                }
            }
            return -1;
        }

        boolean freeWorker(int w) {
            return workerThere[w] && taskOf[w] < 0;
        }

        boolean freeTask(int t) {
            return taskThere[t] && workerOf(t) < 0;
        }

        int pairCount() {
            int sum = 0;
            for (int t : taskOf) {
                sum += t >= 0 ? 1 : 0;
            }
            return sum;
        }

        int pairCost() {
            int sum = 0;
            for (int w = 0; w < n; w++) {
                sum += taskOf[w] >= 0 ? cost[w][taskOf[w]] : 0;
            }
            return sum;
        }

        static int bits(boolean[] all) {
            int sum = 0;
            for (int k = 0; k < all.length; k++) {
                sum += all[k] ? 1 << k : 0;
            }
            return sum;
        }

        // ---- ways

        List<Integer> shortestFrom(int w) {
            return !freeWorker(w) ? new ArrayList<>() : small ? tryAllWays(w) : wayByDistances(w);
        }

        /** Tries all ways there are. */
        List<Integer> tryAllWays(int w) {
            List<List<Integer>> all = new ArrayList<>();
            List<Integer> now = new ArrayList<>();
            now.add(w);
            extendWays(now, all, new boolean[m]);
            all.sort(Comparator.<List<Integer>>comparingInt(List::size).thenComparing((p, q) -> {
                for (int k = 1; k < p.size(); k += 2) {
                    if (!p.get(k).equals(q.get(k))) {
                        return p.get(k) - q.get(k);
                    }
                }
                return 0;
            }));
            return all.isEmpty() ? new ArrayList<>() : all.get(0);
        }

        void extendWays(List<Integer> now, List<List<Integer>> all, boolean[] used) {
            int w = now.get(now.size() - 1);
            for (int t = 0; t < m; t++) {
                if (!usable(w, t) || taskOf[w] == t || used[t]) {
                    continue;
                }
                used[t] = true;
                now.add(t);
                if (workerOf(t) < 0) {
                    all.add(new ArrayList<>(now));
                } else {
                    now.add(workerOf(t));
                    extendWays(now, all, used);
                    now.remove(now.size() - 1);
                }
                now.remove(now.size() - 1);
                used[t] = false;
            }
        }

        /** Goes down distances to a free task, the least task first. */
        List<Integer> wayByDistances(int start) {
            int[] far = new int[n];
            Arrays.fill(far, 1000);
            for (int turn = 0; turn < n; turn++) {
                for (int w = 0; w < n; w++) {
                    for (int t = 0; t < m; t++) {
                        if (usable(w, t) && taskOf[w] != t) {
                            far[w] = Math.min(far[w], workerOf(t) < 0 ? 1 : far[workerOf(t)] + 1);
                        }
                    }
                }
            }
            List<Integer> way = new ArrayList<>();
            if (far[start] >= 1000) {
                return way;
            }
            int w = start;
            while (true) {
                way.add(w);
                for (int t = 0; t < m; t++) {
                    if (usable(w, t) && taskOf[w] != t && far[w] == (workerOf(t) < 0 ? 1 : far[workerOf(t)] + 1)) {
                        way.add(t);
                        break;
                    }
                }
                int last = way.get(way.size() - 1);
                if (workerOf(last) < 0) {
                    return way;
                }
                w = workerOf(last);
            }
        }

        List<Integer> theWay() {
            for (int w = 0; w < n; w++) {
                List<Integer> way = shortestFrom(w);
                if (!way.isEmpty()) {
                    return way;
                }
            }
            return new ArrayList<>();
        }

        void done(List<Integer> way) {
            for (int k = way.size() - 2; k >= 0; k -= 2) {
                taskOf[way.get(k)] = way.get(k + 1);
            }
        }

        int settleAll(int limit) {
            int times = 0;
            while (times < limit) {
                List<Integer> way = theWay();
                if (way.isEmpty()) {
                    return times;
                }
                done(way);
                times++;
            }
            return times;
        }

        Oracle mostTwin() {
            Oracle o = twin();
            o.settleAll(100);
            return o;
        }

        // ---- all pairings, by memo tables over workers and sets of tasks

        Map<Long, long[]> memo;
        int[][] only;

        /** Of the workers from w on with the tasks left: most, least cost, ways, ways of least cost. */
        long[] best(int w, int used) {
            if (w == n) {
                return new long[] {0, 0, 1, 1};
            }
            long key = (long) w << 20 | used;
            long[] known = memo.get(key);
            if (known != null) {
                return known;
            }
            long[] sum = best(w + 1, used).clone();
            for (int t = 0; t < m; t++) {
                if (workerThere[w] && taskThere[t] && only[w][t] >= 0 && (used >> t & 1) == 0) {
                    long[] rest = best(w + 1, used | 1 << t);
                    long size = rest[0] + 1;
                    long price = rest[1] + only[w][t];
                    if (size > sum[0]) {
                        sum = new long[] {size, price, rest[2], rest[3]};
                    } else if (size == sum[0]) {
                        sum[2] += rest[2];
                        if (price < sum[1]) {
                            sum[1] = price;
                            sum[3] = rest[3];
                        } else if (price == sum[1]) {
                            sum[3] += rest[3];
                        }
                    }
                }
            }
            memo.put(key, sum);
            return sum;
        }

        long[] best() {
            memo = new HashMap<>();
            only = cost;
            return best(0, 0);
        }

        int nu() {
            return simpleNu();
        }

        /** Another known way to NU: from each worker deep first. */
        int simpleNu() {
            int[] of = new int[m];
            Arrays.fill(of, -1);
            int sum = 0;
            for (int w = 0; w < n; w++) {
                sum += workerThere[w] && kuhn(w, of, new boolean[m]) ? 1 : 0;
            }
            return sum;
        }

        boolean kuhn(int w, int[] of, boolean[] seen) {
            for (int t = m - 1; t >= 0; t--) {
                if (usable(w, t) && !seen[t]) {
                    seen[t] = true;
                    if (of[t] < 0 || kuhn(of[t], of, seen)) {
                        of[t] = w;
                        return true;
                    }
                }
            }
            return false;
        }

        int[] cheapPairing() {
            long[] all = best();
            int[] result = new int[n];
            int used = 0;
            long size = all[0];
            long price = all[1];
            for (int w = 0; w < n; w++) {
                result[w] = -1;
                for (int t = 0; t < m && result[w] < 0; t++) {
                    if (usable(w, t) && (used >> t & 1) == 0) {
                        long[] rest = best(w + 1, used | 1 << t);
                        if (rest[0] + 1 == size && rest[1] + cost[w][t] == price) {
                            result[w] = t;
                            used |= 1 << t;
                            size--;
                            price -= cost[w][t];
                        }
                    }
                }
            }
            return result;
        }

        // ---- phases, as the document tells them

        int phaseCount;
        int wayCount;
        int firstWays;
        int lastLength;
        int[] workerLayer;
        int[] taskLayer;
        boolean[] workerSeen;
        boolean[] taskSeen;

        void runPhases() {
            Arrays.fill(taskOf, -1);
            while (layers()) {
                phaseCount++;
                workerSeen = new boolean[n];
                taskSeen = new boolean[m];
                for (int w = 0; w < n; w++) {
                    if (freeWorker(w) && deep(w, 2)) {
                        wayCount++;
                    }
                }
                if (phaseCount == 1) {
                    firstWays = wayCount;
                }
            }
        }

        boolean layers() {
            workerLayer = new int[n];
            taskLayer = new int[m];
            Arrays.fill(workerLayer, -5);
            Arrays.fill(taskLayer, -5);
            for (int w = 0; w < n; w++) {
                if (freeWorker(w)) {
                    workerLayer[w] = 0;
                }
            }
            for (int k = 0;; k += 2) {
                boolean any = false;
                boolean free = false;
                for (int w = 0; w < n; w++) {
                    for (int t = 0; t < m; t++) {
                        if (workerLayer[w] == k && usable(w, t) && taskOf[w] != t && taskLayer[t] < 0) {
                            taskLayer[t] = k + 1;
                            any = true;
                            free |= workerOf(t) < 0;
                        }
                    }
                }
                if (free || !any) {
                    return free;
                }
                for (int t = 0; t < m; t++) {
                    if (taskLayer[t] == k + 1) {
                        workerLayer[workerOf(t)] = k + 2;
                    }
                }
            }
        }

        boolean deep(int w, int length) {
            workerSeen[w] = true;
            for (int t = 0; t < m; t++) {
                if (!usable(w, t) || taskLayer[t] != workerLayer[w] + 1 || taskSeen[t]) {
                    continue;
                }
                taskSeen[t] = true;
                int next = workerOf(t);
                boolean found = next < 0;
                if (found) {
                    lastLength = length;
                } else if (workerLayer[next] == taskLayer[t] + 1 && !workerSeen[next]) {
                    found = deep(next, length + 2);
                }
                if (found) {
                    taskOf[w] = t;
                    return true;
                }
            }
            return false;
        }

        // ---- reached

        boolean[][] reachedOnward() {
            boolean[] ws = new boolean[n];
            boolean[] ts = new boolean[m];
            for (int w = 0; w < n; w++) {
                ws[w] = freeWorker(w);
            }
            for (int turn = 0; turn < 30; turn++) {
                for (int w = 0; w < n; w++) {
                    for (int t = 0; t < m; t++) {
                        ts[t] |= ws[w] && usable(w, t);
                        ws[w] |= ts[t] && taskOf[w] == t;
                    }
                }
            }
            return new boolean[][] {ws, ts};
        }

        boolean[][] reachedBack() {
            boolean[] ws = new boolean[n];
            boolean[] ts = new boolean[m];
            for (int t = 0; t < m; t++) {
                ts[t] = freeTask(t);
            }
            for (int turn = 0; turn < 30; turn++) {
                for (int w = 0; w < n; w++) {
                    for (int t = 0; t < m; t++) {
                        ws[w] |= ts[t] && usable(w, t);
                        ts[t] |= ws[w] && taskOf[w] == t;
                    }
                }
            }
            return new boolean[][] {ws, ts};
        }

        // ---- changes in thought

        int nuWithout(int side, int k) {
            Oracle o = twin();
            (side == 0 ? o.workerThere : o.taskThere)[k] = false;
            return o.nu();
        }

        int kindOfFit(int w, int t) {
            if (cost[w][t] < 0) {
                return 0;
            }
            if (!usable(w, t)) {
                return 1;
            }
            Oracle without = twin();
            without.cost[w][t] = -1;
            if (without.nu() < nu()) {
                return 3;
            }
            Oracle rest = twin();
            rest.workerThere[w] = false;
            rest.taskThere[t] = false;
            return rest.nu() + 1 == nu() ? 2 : 1;
        }

        int narrowest() {
            int nu = nu();
            for (int c = 0; c < 100 && nu > 0; c++) {
                Oracle o = twin();
                for (int[] row : o.cost) {
                    for (int t = 0; t < m; t++) {
                        row[t] = row[t] <= c ? row[t] : -1;
                    }
                }
                if (o.nu() == nu) {
                    return c;
                }
            }
            return -1;
        }

        int[] moreFits() {
            int nu = nu();
            int sum = 0;
            int first = -1;
            for (int w = 0; w < n; w++) {
                for (int t = 0; t < m; t++) {
                    if (workerThere[w] && taskThere[t] && cost[w][t] < 0) {
                        Oracle o = twin();
                        o.cost[w][t] = 0;
                        if (o.nu() > nu) {
                            sum++;
                            first = first < 0 ? 100 * w + t : first;
                        }
                    }
                }
            }
            return new int[] {sum, first};
        }

        int[] fewestFits() {
            int nu = nu();
            int[] none = {-1, -1};
            if (nu == 0) {
                return none;
            }
            List<int[]> fits = new ArrayList<>();
            for (int w = 0; w < n; w++) {
                for (int t = 0; t < m; t++) {
                    if (cost[w][t] >= 0) {
                        fits.add(new int[] {w, t});
                    }
                }
            }
            Oracle o = twin();
            for (int[] f : fits) {
                int was = o.cost[f[0]][f[1]];
                o.cost[f[0]][f[1]] = -1;
                if (o.nu() < nu) {
                    return new int[] {1, 100 * f[0] + f[1]};
                }
                o.cost[f[0]][f[1]] = was;
            }
            for (int k = 0; k < fits.size(); k++) {
                for (int j = k + 1; j < fits.size(); j++) {
                    int[] f = fits.get(k);
                    int[] g = fits.get(j);
                    int was = o.cost[f[0]][f[1]];
                    int other = o.cost[g[0]][g[1]];
                    o.cost[f[0]][f[1]] = -1;
                    o.cost[g[0]][g[1]] = -1;
                    if (o.nu() < nu) {
                        return new int[] {2, 100 * f[0] + f[1]};
                    }
                    o.cost[f[0]][f[1]] = was;
                    o.cost[g[0]][g[1]] = other;
                }
            }
            return none;
        }

        int[] chosenOnes() {
            List<Integer> order = new ArrayList<>();
            for (int w = 0; w < n; w++) {
                if (workerThere[w]) {
                    order.add(w);
                }
            }
            order.sort(Comparator.comparingInt(w -> -weight[w]));
            int set = 0;
            int worth = 0;
            for (int w : order) {
                Oracle o = twin();
                int with = set | 1 << w;
                for (int v = 0; v < n; v++) {
                    o.workerThere[v] = (with >> v & 1) != 0;
                }
                if (o.nu() == Integer.bitCount(with)) {
                    set = with;
                    worth += weight[w];
                }
            }
            return new int[] {set, worth};
        }

        int[][] allRounds() {
            int[][] r = new int[n][m];
            for (int[] row : r) {
                Arrays.fill(row, -1);
            }
            for (int w = 0; w < n; w++) {
                for (int t = 0; t < m; t++) {
                    if (usable(w, t)) {
                        giveRound(r, w, t);
                    }
                }
            }
            return r;
        }

        void giveRound(int[][] r, int w, int t) {
            int a = 0;
            while (taskWith(r, w, a) >= 0) {
                a++;
            }
            int b = 0;
            while (workerWith(r, t, b) >= 0) {
                b++;
            }
            List<int[]> chain = new ArrayList<>();
            int nowTask = t;
            while (true) {
                int v = workerWith(r, nowTask, a);
                if (v < 0) {
                    break;
                }
                chain.add(new int[] {v, nowTask});
                int s = taskWith(r, v, b);
                if (s < 0) {
                    break;
                }
                chain.add(new int[] {v, s});
                nowTask = s;
            }
            for (int[] f : chain) {
                r[f[0]][f[1]] = r[f[0]][f[1]] == a ? b : a;
            }
            r[w][t] = a;
        }

        int taskWith(int[][] r, int w, int c) {
            for (int t = 0; t < m; t++) {
                if (r[w][t] == c) {
                    return t;
                }
            }
            return -1;
        }

        int workerWith(int[][] r, int t, int c) {
            for (int w = 0; w < n; w++) {
                if (r[w][t] == c) {
                    return w;
                }
            }
            return -1;
        }

        int greatestDegree() {
            int most = 0;
            for (int w = 0; w < n; w++) {
                int sum = 0;
                for (int t = 0; t < m; t++) {
                    sum += usable(w, t) ? 1 : 0;
                }
                most = Math.max(most, sum);
            }
            for (int t = 0; t < m; t++) {
                int sum = 0;
                for (int w = 0; w < n; w++) {
                    sum += usable(w, t) ? 1 : 0;
                }
                most = Math.max(most, sum);
            }
            return most;
        }

        // ---- the text, by cutting it into signs first

        String text;
        int at;
        boolean keepTold;

        void readText(String whole) throws Fault {
            text = whole;
            at = 0;
            word("workers");
            int workers = number(1, 12);
            sign();
            word("tasks");
            begin(workers, number(1, 12));
            sign();
            keepTold = false;
            while (!peek().isEmpty()) {
                line();
                sign();
            }
        }

        String peek() {
            while (at < text.length() && text.charAt(at) == ' ') {
                at++;
            }
            int stop = at;
            if (stop < text.length()) {
                boolean letter = isLetter(text.charAt(stop));
                boolean digit = isDigit(text.charAt(stop));
                stop++;
                while (stop < text.length() && (letter && isLetter(text.charAt(stop)) || digit && isDigit(text.charAt(stop)))) {
                    stop++;
                }
            }
            return text.substring(at, stop);
        }

        static boolean isLetter(char c) {
            return c >= 'a' && c <= 'z';
        }

        static boolean isDigit(char c) {
            return c >= '0' && c <= '9';
        }

        void word(String due) throws Fault {
            if (!peek().equals(due)) {
                throw new Fault(1, at);
            }
            at += due.length();
        }

        void sign() throws Fault {
            word(";");
        }

        int number(int least, int greatest) throws Fault {
            String digits = peek();
            if (!digits.matches("[0-9]+")) {
                throw new Fault(1, at);
            }
            String plain = digits.replaceFirst("^0+(?=.)", "");
            int v = plain.length() > 4 ? 9999 : Integer.parseInt(plain);
            if (v < least || v > greatest) {
                throw new Fault(2, at);
            }
            at += digits.length();
            return v;
        }

        void line() throws Fault {
            String first = peek();
            int place = at;
            switch (first) {
                case "fit": {
                    word("fit");
                    int w = number(0, n - 1);
                    int t = number(0, m - 1);
                    cost[w][t] = peek().matches("[0-9]+") ? number(0, 99) : 0;
                    return;
                }
                case "away": {
                    word("away");
                    boolean worker = peek().equals("worker");
                    word(worker ? "worker" : "task");
                    peek();
                    int here = at;
                    int k = number(0, (worker ? n : m) - 1);
                    if (worker ? !freeWorker(k) : !freeTask(k)) {
                        throw new Fault(5, here);
                    }
                    (worker ? workerThere : taskThere)[k] = false;
                    return;
                }
                case "pair": {
                    word("pair");
                    peek();
                    int here = at;
                    int w = number(0, n - 1);
                    if (!freeWorker(w)) {
                        throw new Fault(4, here);
                    }
                    int t = number(0, m - 1);
                    if (!freeTask(t) || cost[w][t] < 0) {
                        throw new Fault(4, here);
                    }
                    taskOf[w] = t;
                    return;
                }
                case "weight": {
                    word("weight");
                    int w = number(0, n - 1);
                    weight[w] = number(0, 99);
                    return;
                }
                case "keep": {
                    if (keepTold) {
                        throw new Fault(3, place);
                    }
                    word("keep");
                    keepTold = true;
                    keeping = number(0, 1);
                    return;
                }
                default: throw new Fault(1, place);
            }
        }

        // ---- acts

        void remember() {
            past.add(twin());
            if (past.size() > 15) {
                past.remove(0);
            }
        }

        void keepUp() {
            if (keeping == 1) {
                settleAll(100);
            }
        }

        // ---- calls

        static void place(boolean good) {
            if (!good) {
                throw new NoSuchElementException();
            }
        }

        static void good(boolean good) {
            if (!good) {
                throw new IllegalArgumentException();
            }
        }

        void side(int side, int k) {
            place(side == 0 && k >= 0 && k < n || side == 1 && k >= 0 && k < m);
        }

        void both(int w, int t) {
            side(0, w);
            side(1, t);
        }

        static void within(int what, int least, int most) {
            good(what >= least && what <= most);
        }

        long ask(String name, int[] a) {
            int p = a.length > 0 ? a[0] : 0;
            int q = a.length > 1 ? a[1] : 0;
            int r = a.length > 2 ? a[2] : 0;
            switch (name) {
                case "feed":
                    if (tape.size() + 20 > 300) {
                        return -1;
                    }
                    for (int v : a) {
                        tape.add(v >>> 24);
                        tape.add(v >>> 16 & 255);
                        tape.add(v >>> 8 & 255);
                        tape.add(v & 255);
                    }
                    return tape.size();
                case "text": return tellText(p);
                case "fault": return fault;
                case "told": return told(p);
                case "partner":
                    side(p, q);
                    return p == 0 ? taskOf[q] : workerOf(q);
                case "cost":
                    both(p, q);
                    return cost[p][q];
                case "fits": return fitsOf(p, q);
                case "way": return theWay().size();
                case "wayAt": {
                    List<Integer> way = theWay();
                    place(p >= 0 && p < way.size());
                    return way.get(p);
                }
                case "wayFrom": {
                    side(0, p);
                    within(q, 0, 1);
                    int size = shortestFrom(p).size();
                    return q == 1 ? size : Math.min(1, size);
                }
                case "phases": {
                    within(p, 0, 3);
                    Oracle o = twin();
                    o.runPhases();
                    return new int[] {o.phaseCount, o.wayCount, o.firstWays, o.lastLength}[p];
                }
                case "phased": {
                    side(0, p);
                    Oracle o = twin();
                    o.runPhases();
                    return o.taskOf[p];
                }
                case "most": return mostTwin().pairCount();
                case "reached":
                    place(p == 0 || p == 1);
                    return bits(mostTwin().reachedOnward()[p]);
                case "cover": {
                    place(p == 0 || p == 1);
                    boolean[][] on = mostTwin().reachedOnward();
                    return p == 1 ? bits(on[1]) : bits(workerThere) & ~bits(on[0]);
                }
                case "of": {
                    side(p, q);
                    within(r, 0, 2);
                    if (r == 0) {
                        return nuWithout(p, q) < nu() ? 1 : 0;
                    }
                    if (r == 1) {
                        return nuWithout(p, q);
                    }
                    if (!(p == 0 ? workerThere : taskThere)[q]) {
                        return 0;
                    }
                    Oracle o = mostTwin();
                    return o.reachedOnward()[p][q] ? 1 : o.reachedBack()[p][q] ? 2 : 3;
                }
                case "fit":
                    both(p, q);
                    return kindOfFit(p, q);
                case "fitMany": {
                    within(p, 1, 3);
                    int sum = 0;
                    for (int w = 0; w < n; w++) {
                        for (int t = 0; t < m; t++) {
                            sum += kindOfFit(w, t) == p ? 1 : 0;
                        }
                    }
                    return sum;
                }
                default: return askMore(name, p, q, r);
            }
        }

        long askMore(String name, int p, int q, int r) {
            switch (name) {
                case "lack":
                    good(p >= 0 && p < 1 << n);
                    return lackOf(p);
                case "hall": {
                    within(p, 0, 1);
                    if (p == 1) {
                        return bits(mostTwin().reachedOnward()[0]);
                    }
                    int most = 0;
                    for (int set = 0; set < 1 << n; set++) {
                        most = Math.max(most, lackOf(set));
                    }
                    return most;
                }
                case "many": return best()[2];
                case "cheap":
                    within(p, 0, 1);
                    return p == 0 ? best()[1] : Math.min(1000000000L, best()[3]);
                case "cheapest":
                    side(0, p);
                    return cheapPairing()[p];
                case "narrow": return narrowest();
                case "more":
                    within(p, 0, 1);
                    return moreFits()[p];
                case "fewest":
                    within(p, 0, 1);
                    return fewestFits()[p];
                case "chosen":
                    within(p, 0, 1);
                    return chosenOnes()[p];
                case "rounds": return greatestDegree();
                case "round":
                    both(p, q);
                    return allRounds()[p][q];
                case "print": {
                    long sum = 0;
                    for (int w = 0; w < n; w++) {
                        sum = 13 * sum + taskOf[w] + 1;
                    }
                    return sum;
                }
                case "status": return p == 0 ? noPlace : p == 1 ? noArgument : -1;
                default: return act(name, p, q, r);
            }
        }

        long act(String name, int p, int q, int r) {
            long before;
            switch (name) {
                case "add":
                    both(p, q);
                    within(r, 0, 99);
                    remember();
                    before = cost[p][q];
                    cost[p][q] = r;
                    break;
                case "drop":
                    both(p, q);
                    good(cost[p][q] >= 0);
                    remember();
                    before = cost[p][q];
                    cost[p][q] = -1;
                    if (taskOf[p] == q) {
                        taskOf[p] = -1;
                    }
                    break;
                case "is": {
                    side(p, q);
                    within(r, 0, 1);
                    boolean[] there = p == 0 ? workerThere : taskThere;
                    good(there[q] != (r == 1));
                    remember();
                    before = p == 0 ? taskOf[q] : workerOf(q);
                    there[q] = r == 1;
                    if (before >= 0) {
                        taskOf[p == 0 ? q : (int) before] = -1;
                    }
                    break;
                }
                case "pair":
                    both(p, q);
                    good(usable(p, q) && taskOf[p] != q);
                    remember();
                    if (workerOf(q) >= 0) {
                        taskOf[workerOf(q)] = -1;
                    }
                    taskOf[p] = q;
                    before = pairCount();
                    break;
                case "part":
                    side(0, p);
                    good(taskOf[p] >= 0);
                    remember();
                    before = taskOf[p];
                    taskOf[p] = -1;
                    break;
                case "weight":
                    side(0, p);
                    within(q, 0, 99);
                    remember();
                    before = weight[p];
                    weight[p] = q;
                    break;
                case "keep":
                    within(p, 0, 1);
                    remember();
                    before = keeping;
                    keeping = p;
                    break;
                default: return actAlone(name, p);
            }
            keepUp();
            return before;
        }

        long actAlone(String name, int p) {
            switch (name) {
                case "trade": {
                    Oracle best = null;
                    for (int v = 0; v < n; v++) {
                        for (int w = v + 1; w < n; w++) {
                            if (taskOf[v] >= 0 && taskOf[w] >= 0 && cost[v][taskOf[w]] >= 0 && cost[w][taskOf[v]] >= 0) {
                                Oracle o = twin();
                                o.taskOf[v] = taskOf[w];
                                o.taskOf[w] = taskOf[v];
                                if (o.pairCost() < (best == null ? this : best).pairCost()) {
                                    best = o;
                                }
                            }
                        }
                    }
                    if (best == null) {
                        return 0;
                    }
                    int less = pairCost() - best.pairCost();
                    remember();
                    take(best);
                    return less;
                }
                case "settle": {
                    within(p, 1, 12);
                    Oracle o = twin();
                    int times = o.settleAll(p);
                    if (times > 0) {
                        remember();
                        take(o);
                    }
                    return times;
                }
                case "undo":
                    if (past.isEmpty()) {
                        return -1;
                    }
                    take(past.remove(past.size() - 1));
                    return past.size();
                default: throw new IllegalStateException(name);
            }
        }

        int lackOf(int set) {
            int sum = 0;
            boolean[] together = new boolean[m];
            for (int w = 0; w < n; w++) {
                if ((set >> w & 1) != 0 && workerThere[w]) {
                    sum++;
                    for (int t = 0; t < m; t++) {
                        together[t] |= usable(w, t);
                    }
                }
            }
            return sum - Integer.bitCount(bits(together));
        }

        int fitsOf(int p, int q) {
            side(p, q);
            int sum = 0;
            for (int k = 0; k < (p == 0 ? m : n); k++) {
                sum += (p == 0 ? cost[q][k] : cost[k][q]) >= 0 ? 1 << k : 0;
            }
            return sum;
        }

        long tellText(int p) {
            good(p >= 0 && p <= tape.size());
            StringBuilder b = new StringBuilder();
            for (int k = 0; k < p; k++) {
                b.append((char) tape.get(k).intValue());
            }
            tape.clear();
            Oracle o = new Oracle(small);
            try {
                o.readText(b.toString());
            } catch (Fault f) {
                fault = f.place;
                return f.kind - 10;
            }
            fault = -1;
            take(o);
            past.clear();
            keepUp();
            return pairCount();
        }

        long told(int p) {
            within(p, 0, 11);
            int sum = 0;
            switch (p) {
                case 0: return n;
                case 1: return m;
                case 2:
                    for (int[] row : cost) {
                        for (int c : row) {
                            sum += c >= 0 ? 1 : 0;
                        }
                    }
                    return sum;
                case 3: return pairCount();
                case 4: return keeping;
                case 5: return bits(workerThere);
                case 6: return bits(taskThere);
                case 7:
                    for (int w = 0; w < n; w++) {
                        sum += freeWorker(w) ? 1 << w : 0;
                    }
                    return sum;
                case 8:
                    for (int t = 0; t < m; t++) {
                        sum += freeTask(t) ? 1 << t : 0;
                    }
                    return sum;
                case 9: return pairCost();
                case 10: return past.size();
                default: return tape.size();
            }
        }
    }
}

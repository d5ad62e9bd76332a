import java.util.NoSuchElementException;

/** Workers and tasks paired, and kept paired as they change: see ../shared/DOC.md. */
public final class PairKeeper {
    public static final int NONE = -1;

    /** The most WORKERS, and the most TASKS. */
    private static final int LIMIT = 12;
    /** The greatest COST and the greatest WEIGHT. */
    private static final int HIGHEST = 99;
    /** How many acts can be taken back. */
    private static final int DEPTH = 15;
    /** The most bytes on the TAPE, and how many one feed() brings. */
    private static final int TAPE = 300;
    private static final int MEAL = 20;
    private static final int BLANK = 32;
    private static final int SEMICOLON = 59;
    /** How many sets of TASKS there can be. */
    private static final int SETS = 1 << LIMIT;
    /** Where the count of the cheapest PAIRINGS is held. */
    private static final long HELD = 1000000000L;
    /** One digit of print() and of the code of CHEAP: a TASK or none. */
    private static final int DIGIT = LIMIT + 1;
    /** 13 to the power of 11: the worth of the digit of WORKER 0 in a code of CHEAP. */
    private static final long FIRST_DIGIT = 1792160394037L;
    /** What an answer has of a WORKER that stands ahead of its TASK. */
    private static final int HUNDRED = 100;

    private static final int NEVER = 1;
    private static final int SOMETIMES = 2;
    private static final int ALWAYS = 3;

    private final Book book = new Book();
    private final Book draft = new Book();
    private final History history = new History();
    private final Reader reader = new Reader();
    private final Search search = new Search();
    private final Reach reach = new Reach();
    private final Phasing phasing = new Phasing();
    private final Tally tally = new Tally();
    private final Calendar calendar = new Calendar();
    private boolean tallied = false;
    private int placesRefused = 0;
    private int argumentsRefused = 0;

    public PairKeeper() {
    }

    public int feed(int a, int b, int c, int d, int e) {
        if (!reader.hasRoom()) {
            return NONE;
        }
        reader.put(a);
        reader.put(b);
        reader.put(c);
        reader.put(d);
        reader.put(e);
        return reader.count;
    }

    public int text(int n) throws IllegalArgumentException {
        demand(n >= 0 && n <= reader.count);
        int kind = reader.read(n, draft);
        if (kind != 0) {
            return kind - 10;
        }
        book.copy(draft);
        history.count = 0;
        tallied = false;
        keepUp();
        return book.pairs.size();
    }

    public int fault() {
        return reader.faultAt;
    }

    public int told(int what) throws IllegalArgumentException {
        demand(what >= 0 && what <= 11);
        switch (what) {
            case 0: return book.workers;
            case 1: return book.tasks;
            case 2: return book.fitCount();
            case 3: return book.pairs.size();
            case 4: return book.keeping;
            case 5: return book.workersThere;
            case 6: return book.tasksThere;
            case 7: return book.workersThere & ~book.pairs.workersIn();
            case 8: return book.tasksThere & ~book.pairs.tasksIn();
            case 9: return book.pairCost();
            case 10: return history.count;
            default: return reader.count;
        }
    }

    public int partner(int side, int k) throws NoSuchElementException {
        demandPlace(book.knows(side, k));
        return book.partnerOf(side, k);
    }

    public int cost(int worker, int task) throws NoSuchElementException {
        demandPlace(book.knowsBoth(worker, task));
        return book.costOf(worker, task);
    }

    public int fits(int side, int k) throws NoSuchElementException {
        demandPlace(book.knows(side, k));
        return side == 0 ? book.tasksFor(k) : book.workersFor(k);
    }

    public int way() {
        search.load(book);
        return search.findFirst();
    }

    public int wayAt(int k) throws NoSuchElementException {
        search.load(book);
        int length = search.findFirst();
        demandPlace(k >= 0 && k < length);
        return search.wayAtPlace(k);
    }

    public int wayFrom(int worker, int what) throws NoSuchElementException, IllegalArgumentException {
        demandPlace(book.knows(0, worker));
        demand(what == 0 || what == 1);
        search.load(book);
        int length = search.find(worker);
        return what == 1 ? length : length > 0 ? 1 : 0;
    }

    public int phases(int what) throws IllegalArgumentException {
        demand(what >= 0 && what <= 3);
        runPhases();
        switch (what) {
            case 0: return phasing.phaseCount;
            case 1: return phasing.wayCount;
            case 2: return phasing.firstWays;
            default: return phasing.lastLength;
        }
    }

    public int phased(int worker) throws NoSuchElementException {
        demandPlace(book.knows(0, worker));
        runPhases();
        return search.pairs.taskOf(worker);
    }

    public int most() {
        return makeMost();
    }

    public int reached(int side) throws NoSuchElementException {
        demandPlace(side == 0 || side == 1);
        makeMost();
        reach.look(search);
        return side == 0 ? reach.workers : reach.tasks;
    }

    public int cover(int side) throws NoSuchElementException {
        demandPlace(side == 0 || side == 1);
        makeMost();
        reach.look(search);
        return side == 0 ? book.workersThere & ~reach.workers : reach.tasks;
    }

    public int of(int side, int k, int what) throws NoSuchElementException, IllegalArgumentException {
        demandPlace(book.knows(side, k));
        demand(what >= 0 && what <= 2);
        if (what == 2) {
            return partOf(side, k);
        }
        search.load(book);
        search.leaveOut(side, k);
        search.grow(LIMIT);
        int without = search.pairs.size();
        if (what == 1) {
            return without;
        }
        return without < makeMost() ? 1 : 0;
    }

    public int fit(int worker, int task) throws NoSuchElementException {
        demandPlace(book.knowsBoth(worker, task));
        makeMost();
        reach.look(search);
        reach.close(search);
        return kindOf(worker, task);
    }

    public int fitMany(int what) throws IllegalArgumentException {
        demand(what >= NEVER && what <= ALWAYS);
        makeMost();
        reach.look(search);
        reach.close(search);
        int found = 0;
        for (int w = 0; w < book.workers; w++) {
            for (int t = 0; t < book.tasks; t++) {
                if (kindOf(w, t) == what) {
                    found++;
                }
            }
        }
        return found;
    }

    public int lack(int set) throws IllegalArgumentException {
        demand(set >= 0 && set < 1 << book.workers);
        int asked = set & book.workersThere;
        int together = 0;
        for (int w = 0; w < book.workers; w++) {
            if (has(asked, w)) {
                together |= book.tasksFor(w) & book.tasksThere;
            }
        }
        return Integer.bitCount(asked) - Integer.bitCount(together);
    }

    public int hall(int what) throws IllegalArgumentException {
        demand(what == 0 || what == 1);
        int nu = makeMost();
        if (what == 0) {
            return Integer.bitCount(book.workersThere) - nu;
        }
        reach.look(search);
        return reach.workers;
    }

    public long many() {
        runTally();
        return tally.many;
    }

    public int cheap(int what) throws IllegalArgumentException {
        demand(what == 0 || what == 1);
        runTally();
        return what == 0 ? tally.leastCost : (int) Math.min(HELD, tally.cheapMany);
    }

    public int cheapest(int worker) throws NoSuchElementException {
        demandPlace(book.knows(0, worker));
        runTally();
        return tally.taskOf(worker);
    }

    public int narrow() {
        int nu = makeMost();
        if (nu == 0) {
            return NONE;
        }
        search.shutAll();
        for (int c = 0; c <= HIGHEST; c++) {
            if (search.openCost(book, c)) {
                search.grow(LIMIT);
            }
            if (search.pairs.size() >= nu) {
                return c;
            }
        }
        return NONE;
    }

    public int more(int what) throws IllegalArgumentException {
        demand(what == 0 || what == 1);
        makeMost();
        reach.look(search);
        int found = 0;
        int first = NONE;
        for (int w = 0; w < book.workers; w++) {
            for (int t = 0; t < book.tasks; t++) {
                if (wouldGrow(w, t)) {
                    found++;
                    first = first == NONE ? HUNDRED * w + t : first;
                }
            }
        }
        return what == 0 ? found : first;
    }

    public int fewest(int what) throws IllegalArgumentException {
        demand(what == 0 || what == 1);
        if (makeMost() == 0) {
            return NONE;
        }
        int alone = firstAlways();
        if (alone != NONE) {
            return what == 0 ? 1 : alone;
        }
        int ofTwo = firstOfTwo();
        if (ofTwo != NONE) {
            return what == 0 ? 2 : ofTwo;
        }
        return NONE;
    }

    public int chosen(int what) throws IllegalArgumentException {
        demand(what == 0 || what == 1);
        search.load(book);
        search.pairs.clear();
        int left = book.workersThere;
        int chosenOnes = 0;
        int worth = 0;
        for (int turn = 0; turn < LIMIT && left != 0; turn++) {
            int worker = book.heaviest(left);
            left &= ~bit(worker);
            if (search.find(worker) > 0) {
                search.follow();
                chosenOnes |= bit(worker);
                worth += book.weightOf(worker);
            }
        }
        return what == 0 ? chosenOnes : worth;
    }

    public int rounds() {
        calendar.fill(book);
        return calendar.rounds;
    }

    public int round(int worker, int task) throws NoSuchElementException {
        demandPlace(book.knowsBoth(worker, task));
        calendar.fill(book);
        return calendar.roundOf(worker, task);
    }

    public int add(int worker, int task, int c) throws NoSuchElementException, IllegalArgumentException {
        demandPlace(book.knowsBoth(worker, task));
        demand(c >= 0 && c <= HIGHEST);
        beginAct();
        int before = book.costOf(worker, task);
        book.setFit(worker, task, c);
        keepUp();
        return before;
    }

    public int drop(int worker, int task) throws NoSuchElementException, IllegalArgumentException {
        demandPlace(book.knowsBoth(worker, task));
        demand(book.isFit(worker, task));
        beginAct();
        int before = book.costOf(worker, task);
        book.removeFit(worker, task);
        keepUp();
        return before;
    }

    public int is(int side, int k, int there) throws NoSuchElementException, IllegalArgumentException {
        demandPlace(book.knows(side, k));
        demand(there == 0 || there == 1);
        demand(book.isThere(side, k) != (there == 1));
        beginAct();
        int before = book.partnerOf(side, k);
        book.setThere(side, k, there == 1);
        keepUp();
        return before;
    }

    public int pair(int worker, int task) throws NoSuchElementException, IllegalArgumentException {
        demandPlace(book.knowsBoth(worker, task));
        demand(book.isFit(worker, task) && book.isThere(0, worker) && book.isThere(1, task));
        demand(book.pairs.taskOf(worker) != task);
        beginAct();
        book.pairs.join(worker, task);
        int after = book.pairs.size();
        keepUp();
        return after;
    }

    public int part(int worker) throws NoSuchElementException, IllegalArgumentException {
        demandPlace(book.knows(0, worker));
        int task = book.pairs.taskOf(worker);
        demand(task != NONE);
        beginAct();
        book.pairs.loosenWorker(worker);
        keepUp();
        return task;
    }

    public int weight(int worker, int v) throws NoSuchElementException, IllegalArgumentException {
        demandPlace(book.knows(0, worker));
        demand(v >= 0 && v <= HIGHEST);
        beginAct();
        int before = book.weightOf(worker);
        book.setWeight(worker, v);
        keepUp();
        return before;
    }

    public int trade() {
        int best = 0;
        int first = NONE;
        int second = NONE;
        for (int v = 0; v < book.workers; v++) {
            for (int w = v + 1; w < book.workers; w++) {
                int gain = book.tradeGain(v, w);
                if (gain > best) {
                    best = gain;
                    first = v;
                    second = w;
                }
            }
        }
        if (best > 0) {
            beginAct();
            book.pairs.swap(first, second);
        }
        return best;
    }

    public int keep(int v) throws IllegalArgumentException {
        demand(v == 0 || v == 1);
        beginAct();
        int before = book.keeping;
        book.keeping = v;
        keepUp();
        return before;
    }

    public int settle(int n) throws IllegalArgumentException {
        demand(n >= 1 && n <= LIMIT);
        search.load(book);
        int times = search.grow(n);
        if (times > 0) {
            beginAct();
            book.pairs.copy(search.pairs);
        }
        return times;
    }

    public int undo() {
        if (!history.takeBack(book)) {
            return NONE;
        }
        tallied = false;
        return history.count;
    }

    public long print() {
        long sum = 0;
        for (int w = 0; w < book.workers; w++) {
            sum = sum * DIGIT + book.pairs.taskOf(w) + 1;
        }
        return sum;
    }

    public int status(int what) {
        return what == 0 ? placesRefused : what == 1 ? argumentsRefused : NONE;
    }

    private void demand(boolean good) {
        if (!good) {
            argumentsRefused++;
            throw new IllegalArgumentException("not such an argument");
        }
    }

    private void demandPlace(boolean known) {
        if (!known) {
            placesRefused++;
            throw new NoSuchElementException("no such side, worker, task or place");
        }
    }

    /** What comes before each change that can be taken back. */
    private void beginAct() {
        history.save(book);
        tallied = false;
    }

    private void keepUp() {
        if (book.keeping == 1) {
            search.load(book);
            search.grow(LIMIT);
            book.pairs.copy(search.pairs);
        }
    }

    /** Makes M in thought and answers NU. */
    private int makeMost() {
        search.load(book);
        search.grow(LIMIT);
        return search.pairs.size();
    }

    private void runPhases() {
        search.load(book);
        phasing.run(search);
    }

    private void runTally() {
        if (!tallied) {
            int nu = makeMost();
            tally.run(book, search, nu);
            tallied = true;
        }
    }

    private int partOf(int side, int k) {
        if (!book.isThere(side, k)) {
            return 0;
        }
        makeMost();
        reach.look(search);
        if (has(side == 0 ? reach.workers : reach.tasks, k)) {
            return 1;
        }
        return has(side == 0 ? reach.workersBack : reach.tasksBack, k) ? 2 : 3;
    }

    /** 0 no FIT, else NEVER, SOMETIMES or ALWAYS, by what REACH saw last. */
    private int kindOf(int worker, int task) {
        if (!book.isFit(worker, task)) {
            return 0;
        }
        return search.isOpen(worker, task) ? reach.kindOf(search, worker, task) : NEVER;
    }

    /** A FIT more helps if, and only if, both of it could go without a PAIR at once. */
    private boolean wouldGrow(int worker, int task) {
        return !book.isFit(worker, task) && has(reach.workers, worker) && has(reach.tasksBack, task);
    }

    /** The first FIT that is ALWAYS; those are PAIRS of M. */
    private int firstAlways() {
        reach.look(search);
        reach.close(search);
        for (int w = 0; w < book.workers; w++) {
            int task = search.pairs.taskOf(w);
            if (task != NONE && reach.kindOf(search, w, task) == ALWAYS) {
                return HUNDRED * w + task;
            }
        }
        return NONE;
    }

    /** The first FIT without which another is ALWAYS, where none is ALWAYS as it is. */
    private int firstOfTwo() {
        for (int w = 0; w < book.workers; w++) {
            for (int t = 0; t < book.tasks; t++) {
                if (search.isOpen(w, t)) {
                    search.shut(w, t);
                    search.grow(LIMIT);
                    boolean found = firstAlways() != NONE;
                    search.open(w, t);
                    if (found) {
                        return HUNDRED * w + t;
                    }
                }
            }
        }
        return NONE;
    }

    private static int bit(int k) {
        return 1 << k;
    }

    private static boolean has(int bits, int k) {
        return (bits >> k & 1) != 0;
    }

    private static boolean inLimit(int k) {
        return k >= 0 && k < LIMIT;
    }

    /** PAIRS: no WORKER and no TASK in two of them. */
    private static final class Pairs {
        private final int[] tasks = new int[LIMIT];
        private final int[] workers = new int[LIMIT];

        private Pairs() {
            clear();
        }

        private void clear() {
            for (int k = 0; k < LIMIT; k++) {
                tasks[k] = NONE;
                workers[k] = NONE;
            }
        }

        private void copy(Pairs other) {
            for (int k = 0; k < LIMIT; k++) {
                tasks[k] = other.tasks[k];
                workers[k] = other.workers[k];
            }
        }

        private int taskOf(int worker) {
            return worker >= 0 && worker < LIMIT ? tasks[worker] : NONE;
        }

        private int workerOf(int task) {
            return task >= 0 && task < LIMIT ? workers[task] : NONE;
        }

        private void join(int worker, int task) {
            if (!inLimit(worker) || !inLimit(task)) {
                return;
            }
            int oldTask = tasks[worker];
            int oldWorker = workers[task];
            if (inLimit(oldTask)) {
                workers[oldTask] = NONE;
            }
            if (inLimit(oldWorker)) {
                tasks[oldWorker] = NONE;
            }
            tasks[worker] = task;
            workers[task] = worker;
        }

        private void loosenWorker(int worker) {
            int task = taskOf(worker);
            if (inLimit(worker) && inLimit(task)) {
                tasks[worker] = NONE;
                workers[task] = NONE;
            }
        }

        private void loosenTask(int task) {
            loosenWorker(workerOf(task));
        }

        private void swap(int one, int other) {
            int ofOne = taskOf(one);
            int ofOther = taskOf(other);
            join(one, ofOther);
            join(other, ofOne);
        }

        private int workersIn() {
            int bits = 0;
            for (int w = 0; w < LIMIT; w++) {
                if (tasks[w] != NONE) {
                    bits |= bit(w);
                }
            }
            return bits;
        }

        private int tasksIn() {
            int bits = 0;
            for (int t = 0; t < LIMIT; t++) {
                if (workers[t] != NONE) {
                    bits |= bit(t);
                }
            }
            return bits;
        }

        private int size() {
            return Integer.bitCount(workersIn());
        }
    }

    /** All that acts change: who is THERE, FITS, PAIRS, WEIGHTS, KEEP. */
    private static final class Book {
        private int workers;
        private int tasks;
        private int workersThere;
        private int tasksThere;
        private int keeping;
        private final int[] weights = new int[LIMIT];
        private final int[] tasksFitting = new int[LIMIT];
        private final int[] workersFitting = new int[LIMIT];
        private final int[] costs = new int[LIMIT * LIMIT];
        private final Pairs pairs = new Pairs();

        private Book() {
            begin(1, 1);
        }

        private void begin(int workerCount, int taskCount) {
            workers = workerCount;
            tasks = taskCount;
            workersThere = bit(workerCount) - 1;
            tasksThere = bit(taskCount) - 1;
            keeping = 1;
            for (int k = 0; k < LIMIT; k++) {
                weights[k] = 1;
                tasksFitting[k] = 0;
                workersFitting[k] = 0;
            }
            for (int k = 0; k < LIMIT * LIMIT; k++) {
                costs[k] = NONE;
            }
            pairs.clear();
        }

        private void copy(Book other) {
            workers = other.workers;
            tasks = other.tasks;
            workersThere = other.workersThere;
            tasksThere = other.tasksThere;
            keeping = other.keeping;
            for (int k = 0; k < LIMIT; k++) {
                weights[k] = other.weights[k];
                tasksFitting[k] = other.tasksFitting[k];
                workersFitting[k] = other.workersFitting[k];
            }
            System.arraycopy(other.costs, 0, costs, 0, LIMIT * LIMIT);
            pairs.copy(other.pairs);
        }

        private boolean knows(int side, int k) {
            return k >= 0 && (side == 0 && k < workers || side == 1 && k < tasks);
        }

        private boolean knowsBoth(int worker, int task) {
            return knows(0, worker) && knows(1, task);
        }

        private boolean isThere(int side, int k) {
            return knows(side, k) && has(side == 0 ? workersThere : tasksThere, k);
        }

        private int partnerOf(int side, int k) {
            return side == 0 ? pairs.taskOf(k) : pairs.workerOf(k);
        }

        private boolean isFree(int side, int k) {
            return isThere(side, k) && partnerOf(side, k) == NONE;
        }

        private int costOf(int worker, int task) {
            return inLimit(worker) && inLimit(task) ? costs[worker * LIMIT + task] : NONE;
        }

        private boolean isFit(int worker, int task) {
            return costOf(worker, task) != NONE;
        }

        private int tasksFor(int worker) {
            return inLimit(worker) ? tasksFitting[worker] : 0;
        }

        private int workersFor(int task) {
            return inLimit(task) ? workersFitting[task] : 0;
        }

        private void setFit(int worker, int task, int c) {
            if (inLimit(worker) && inLimit(task)) {
                costs[worker * LIMIT + task] = c;
                tasksFitting[worker] |= bit(task);
                workersFitting[task] |= bit(worker);
            }
        }

        private void removeFit(int worker, int task) {
            if (inLimit(worker) && inLimit(task)) {
                costs[worker * LIMIT + task] = NONE;
                tasksFitting[worker] &= ~bit(task);
                workersFitting[task] &= ~bit(worker);
                if (pairs.taskOf(worker) == task) {
                    pairs.loosenWorker(worker);
                }
            }
        }

        private void setThere(int side, int k, boolean there) {
            if (side == 0) {
                workersThere = there ? workersThere | bit(k) : workersThere & ~bit(k);
                pairs.loosenWorker(k);
            } else {
                tasksThere = there ? tasksThere | bit(k) : tasksThere & ~bit(k);
                pairs.loosenTask(k);
            }
        }

        private int weightOf(int worker) {
            return inLimit(worker) ? weights[worker] : 0;
        }

        private void setWeight(int worker, int v) {
            if (inLimit(worker)) {
                weights[worker] = v;
            }
        }

        /** The first of a set of WORKERS with the greatest WEIGHT. */
        private int heaviest(int set) {
            int best = NONE;
            for (int w = 0; w < workers; w++) {
                if (has(set, w) && (best == NONE || weightOf(w) > weightOf(best))) {
                    best = w;
                }
            }
            return best == NONE ? 0 : best;
        }

        private int fitCount() {
            int sum = 0;
            for (int w = 0; w < LIMIT; w++) {
                sum += Integer.bitCount(tasksFitting[w]);
            }
            return sum;
        }

        private int pairCost() {
            int sum = 0;
            for (int w = 0; w < workers; w++) {
                int task = pairs.taskOf(w);
                if (task != NONE) {
                    sum += costOf(w, task);
                }
            }
            return sum;
        }

        /** By how much COST is less if two WORKERS change their TASKS; 0 if they can't. */
        private int tradeGain(int one, int other) {
            int ofOne = pairs.taskOf(one);
            int ofOther = pairs.taskOf(other);
            if (!isFit(one, ofOther) || !isFit(other, ofOne)) {
                return 0;
            }
            return costOf(one, ofOne) + costOf(other, ofOther) - costOf(one, ofOther) - costOf(other, ofOne);
        }
    }

    /** The latest acts: how all was ahead of each. */
    private static final class History {
        private final Book[] books = new Book[DEPTH];
        private int next = 0;
        private int count = 0;

        private History() {
            for (int k = 0; k < DEPTH; k++) {
                books[k] = new Book();
            }
        }

        private Book bookAt(int k) {
            return k >= 0 && k < DEPTH ? books[k] : null;
        }

        private void save(Book now) {
            Book slot = bookAt(next);
            if (slot != null) {
                slot.copy(now);
                next = next + 1 < DEPTH ? next + 1 : 0;
                count = count < DEPTH ? count + 1 : DEPTH;
            }
        }

        private boolean takeBack(Book now) {
            int last = next > 0 ? next - 1 : DEPTH - 1;
            Book slot = bookAt(last);
            if (count == 0 || slot == null) {
                return false;
            }
            now.copy(slot);
            next = last;
            count--;
            return true;
        }
    }

    /** The TAPE, and the reading of a TEXT from it into a Book. */
    private static final class Reader {
        private static final int CANT_STAND = 1;
        private static final int NO_SUCH_NUMBER = 2;
        private static final int SECOND_KEEP = 3;
        private static final int NO_PAIR = 4;
        private static final int NO_AWAY = 5;

        private final int[] bytes = new int[TAPE];
        private int count = 0;
        private int faultAt = NONE;
        private int faultKind = 0;
        private int end = 0;
        private int at = 0;
        /** Where the latest word or number begins. */
        private int start = 0;
        private boolean keepRead = false;

        private boolean hasRoom() {
            return count + MEAL <= TAPE;
        }

        private void put(int four) {
            for (int shift = 24; shift >= 0; shift -= 8) {
                if (count >= 0 && count < TAPE) {
                    bytes[count] = four >> shift & 255;
                    count++;
                }
            }
        }

        /** Reads the first bytes and empties the TAPE: the FAULT, 0 without one. */
        private int read(int n, Book book) {
            end = n;
            at = 0;
            faultAt = NONE;
            faultKind = 0;
            keepRead = false;
            count = 0;
            boolean good = readHead(book);
            for (int line = 0; line < TAPE && good && moreStands(); line++) {
                good = readLine(book) && readEnd();
            }
            return faultKind;
        }

        private boolean readHead(Book book) {
            if (!readWord("workers") || !readNumber(1, LIMIT)) {
                return false;
            }
            int workers = value();
            if (!readEnd() || !readWord("tasks") || !readNumber(1, LIMIT)) {
                return false;
            }
            book.begin(workers, value());
            return readEnd();
        }

        private boolean readLine(Book book) {
            takeWord();
            if (wordIs("fit")) {
                return readFit(book);
            }
            if (wordIs("away")) {
                return readAway(book);
            }
            if (wordIs("pair")) {
                return readPair(book);
            }
            if (wordIs("weight")) {
                return readWeight(book);
            }
            if (wordIs("keep")) {
                return readKeep(book);
            }
            return isFault(CANT_STAND, start);
        }

        private boolean readFit(Book book) {
            if (!readNumber(0, book.workers - 1)) {
                return false;
            }
            int worker = value();
            if (!readNumber(0, book.tasks - 1)) {
                return false;
            }
            int task = value();
            int c = 0;
            skipBlanks();
            if (isDigit(byteAt(at))) {
                if (!readNumber(0, HIGHEST)) {
                    return false;
                }
                c = value();
            }
            book.setFit(worker, task, c);
            return true;
        }

        private boolean readAway(Book book) {
            takeWord();
            int side = wordIs("worker") ? 0 : wordIs("task") ? 1 : NONE;
            if (side == NONE) {
                return isFault(CANT_STAND, start);
            }
            if (!readNumber(0, (side == 0 ? book.workers : book.tasks) - 1)) {
                return false;
            }
            int k = value();
            if (!book.isFree(side, k)) {
                return isFault(NO_AWAY, start);
            }
            book.setThere(side, k, false);
            return true;
        }

        private boolean readPair(Book book) {
            if (!readNumber(0, book.workers - 1)) {
                return false;
            }
            int worker = value();
            int workerAt = start;
            if (!book.isFree(0, worker)) {
                return isFault(NO_PAIR, workerAt);
            }
            if (!readNumber(0, book.tasks - 1)) {
                return false;
            }
            int task = value();
            if (!book.isFree(1, task) || !book.isFit(worker, task)) {
                return isFault(NO_PAIR, workerAt);
            }
            book.pairs.join(worker, task);
            return true;
        }

        private boolean readWeight(Book book) {
            if (!readNumber(0, book.workers - 1)) {
                return false;
            }
            int worker = value();
            if (!readNumber(0, HIGHEST)) {
                return false;
            }
            book.setWeight(worker, value());
            return true;
        }

        private boolean readKeep(Book book) {
            if (keepRead) {
                return isFault(SECOND_KEEP, start);
            }
            keepRead = true;
            if (!readNumber(0, 1)) {
                return false;
            }
            book.keeping = value();
            return true;
        }

        /** Notes a FAULT: always false, so that reading ends. */
        private boolean isFault(int kind, int place) {
            faultKind = kind;
            faultAt = place;
            return false;
        }

        private int byteAt(int place) {
            return place >= 0 && place < end && place < TAPE ? bytes[place] : NONE;
        }

        private void skipBlanks() {
            while (at < end && byteAt(at) == BLANK) {
                at++;
            }
        }

        private boolean moreStands() {
            skipBlanks();
            return at < end;
        }

        private boolean readEnd() {
            skipBlanks();
            if (byteAt(at) != SEMICOLON) {
                return isFault(CANT_STAND, at);
            }
            at++;
            return true;
        }

        private void takeWord() {
            skipBlanks();
            start = at;
            while (at < end && byteAt(at) >= 'a' && byteAt(at) <= 'z') {
                at++;
            }
        }

        private boolean wordIs(String word) {
            if (at - start != word.length()) {
                return false;
            }
            for (int k = 0; k < word.length(); k++) {
                if (byteAt(start + k) != word.charAt(k)) {
                    return false;
                }
            }
            return true;
        }

        private boolean readWord(String word) {
            takeWord();
            return wordIs(word) || isFault(CANT_STAND, start);
        }

        private boolean readNumber(int least, int greatest) {
            skipBlanks();
            start = at;
            while (at < end && isDigit(byteAt(at))) {
                at++;
            }
            if (at == start) {
                return isFault(CANT_STAND, start);
            }
            int number = value();
            return number >= least && number <= greatest || isFault(NO_SUCH_NUMBER, start);
        }

        /** The latest number; a long one is held at 1000, which no line allows. */
        private int value() {
            int number = 0;
            for (int k = start; k < end && isDigit(byteAt(k)); k++) {
                number = Math.min(1000, number * 10 + byteAt(k) - '0');
            }
            return number;
        }

        private static boolean isDigit(int sign) {
            return sign >= '0' && sign <= '9';
        }
    }

    /** In thought: FITS of those that are THERE, PAIRS, and WAYS among them. */
    private static final class Search {
        private final Pairs pairs = new Pairs();
        private final int[] rows = new int[LIMIT];
        private final int[] queue = new int[LIMIT];
        private final int[] from = new int[LIMIT];
        private final int[] way = new int[2 * LIMIT];
        private int length = 0;
        private int workers = 0;
        private int tasks = 0;
        private int workersThere = 0;
        private int tasksThere = 0;

        private void load(Book book) {
            workers = Math.min(LIMIT, book.workers);
            tasks = Math.min(LIMIT, book.tasks);
            workersThere = book.workersThere;
            tasksThere = book.tasksThere;
            for (int w = 0; w < LIMIT; w++) {
                rows[w] = has(workersThere, w) ? book.tasksFor(w) & tasksThere : 0;
            }
            pairs.copy(book.pairs);
            length = 0;
        }

        private int row(int worker) {
            return inLimit(worker) ? rows[worker] : 0;
        }

        private boolean isOpen(int worker, int task) {
            return inLimit(task) && has(row(worker), task);
        }

        private void open(int worker, int task) {
            if (inLimit(worker) && inLimit(task)) {
                rows[worker] |= bit(task);
            }
        }

        private void shut(int worker, int task) {
            if (inLimit(worker) && inLimit(task)) {
                rows[worker] &= ~bit(task);
                if (pairs.taskOf(worker) == task) {
                    pairs.loosenWorker(worker);
                }
            }
        }

        private void shutAll() {
            for (int w = 0; w < LIMIT; w++) {
                rows[w] = 0;
            }
            pairs.clear();
        }

        /** Opens the FITS of one COST: whether there are any. */
        private boolean openCost(Book book, int c) {
            boolean any = false;
            for (int w = 0; w < workers; w++) {
                for (int t = 0; t < tasks; t++) {
                    if (book.costOf(w, t) == c && has(workersThere, w) && has(tasksThere, t)) {
                        open(w, t);
                        any = true;
                    }
                }
            }
            return any;
        }

        private void leaveOut(int side, int k) {
            if (side == 0) {
                workersThere &= ~bit(k);
                pairs.loosenWorker(k);
            } else {
                tasksThere &= ~bit(k);
                pairs.loosenTask(k);
            }
            for (int w = 0; w < LIMIT; w++) {
                rows[w] = has(workersThere, w) ? rows[w] & tasksThere : 0;
            }
        }

        /** The shortest WAY from a WORKER, of alike ones the first: breadth first finds it first. */
        private int find(int worker) {
            length = 0;
            if (!inLimit(worker) || !has(workersThere, worker) || pairs.taskOf(worker) != NONE) {
                return 0;
            }
            int seen = 0;
            int waiting = 1;
            queue[0] = worker;
            for (int k = 0; k < waiting && k < LIMIT; k++) {
                int now = queue[k];
                int unseen = row(now) & ~seen;
                for (int t = 0; t < LIMIT && unseen != 0; t++) {
                    if (has(unseen, t)) {
                        seen |= bit(t);
                        from[t] = now;
                        int next = pairs.workerOf(t);
                        if (next == NONE) {
                            trace(t);
                            return length;
                        }
                        if (waiting < LIMIT) {
                            queue[waiting] = next;
                            waiting++;
                        }
                    }
                }
            }
            return 0;
        }

        /** Writes down the WAY that ends at a TASK, going back from there. */
        private void trace(int last) {
            int steps = 0;
            for (int t = last; inLimit(t) && steps < LIMIT; t = pairs.taskOf(from[t])) {
                steps++;
            }
            length = 2 * steps;
            int task = last;
            for (int k = steps - 1; k >= 0 && inLimit(task); k--) {
                way[2 * k] = from[task];
                way[2 * k + 1] = task;
                task = pairs.taskOf(from[task]);
            }
        }

        private int wayAtPlace(int k) {
            return k >= 0 && k < length && k < 2 * LIMIT ? way[k] : NONE;
        }

        /** THE WAY: how many it has. */
        private int findFirst() {
            for (int w = 0; w < workers; w++) {
                if (find(w) > 0) {
                    return length;
                }
            }
            return 0;
        }

        /** The WAY that was found is DONE. */
        private void follow() {
            for (int k = 0; k + 1 < length; k += 2) {
                pairs.join(wayAtPlace(k), wayAtPlace(k + 1));
            }
        }

        /**
         * THE WAY is DONE, so often at most: how often.
         * Who has no WAY gets none by another's, so each WORKER is tried once.
         */
        private int grow(int most) {
            int times = 0;
            for (int w = 0; w < workers && times < most; w++) {
                if (find(w) > 0) {
                    follow();
                    times++;
                }
            }
            return times;
        }
    }

    /** Who can be come to from whom, by PAIRS that are MOST. */
    private static final class Reach {
        private int workers = 0;
        private int tasks = 0;
        private int workersBack = 0;
        private int tasksBack = 0;
        /** Of each WORKER those to which it can come by FITS that are no PAIR and PAIRS. */
        private final int[] onward = new int[LIMIT];

        /** REACHED from FREE WORKERS, and likewise from FREE TASKS. */
        private void look(Search search) {
            workers = search.workersThere & ~search.pairs.workersIn();
            tasks = 0;
            for (int turn = 0; turn < LIMIT; turn++) {
                int before = workers;
                lookOn(search);
                if (workers == before) {
                    break;
                }
            }
            tasksBack = search.tasksThere & ~search.pairs.tasksIn();
            workersBack = 0;
            for (int turn = 0; turn < LIMIT; turn++) {
                int before = tasksBack;
                lookBack(search);
                if (tasksBack == before) {
                    break;
                }
            }
        }

        private void lookOn(Search search) {
            for (int w = 0; w < LIMIT; w++) {
                if (has(workers, w)) {
                    tasks |= search.row(w);
                }
            }
            for (int w = 0; w < LIMIT; w++) {
                int task = search.pairs.taskOf(w);
                if (task != NONE && has(tasks, task)) {
                    workers |= bit(w);
                }
            }
        }

        private void lookBack(Search search) {
            for (int w = 0; w < LIMIT; w++) {
                if ((search.row(w) & tasksBack) != 0) {
                    workersBack |= bit(w);
                    int task = search.pairs.taskOf(w);
                    if (task != NONE) {
                        tasksBack |= bit(task);
                    }
                }
            }
        }

        private void close(Search search) {
            for (int w = 0; w < LIMIT; w++) {
                int own = search.pairs.taskOf(w);
                int others = own == NONE ? search.row(w) : search.row(w) & ~bit(own);
                onward[w] = 0;
                for (int t = 0; t < LIMIT && others != 0; t++) {
                    int next = search.pairs.workerOf(t);
                    if (has(others, t) && next != NONE) {
                        onward[w] |= bit(next);
                    }
                }
            }
            for (int by = 0; by < LIMIT; by++) {
                for (int w = 0; w < LIMIT; w++) {
                    if (has(onward[w], by)) {
                        onward[w] |= onward[by];
                    }
                }
            }
        }

        private boolean comesTo(int worker, int other) {
            return inLimit(worker) && inLimit(other) && has(onward[worker], other);
        }

        /**
         * NEVER, SOMETIMES or ALWAYS, of a FIT of two that are THERE. M can be changed at the FIT
         * if one of it is come to from a FREE one, or if it lies on a ring of FITS and PAIRS.
         */
        private int kindOf(Search search, int worker, int task) {
            if (has(workers, worker) || has(tasksBack, task)) {
                return SOMETIMES;
            }
            boolean onRing = comesTo(search.pairs.workerOf(task), worker);
            if (search.pairs.taskOf(worker) == task) {
                return onRing ? SOMETIMES : ALWAYS;
            }
            return onRing ? SOMETIMES : NEVER;
        }
    }

    /** PHASES, by layers. */
    private static final class Phasing {
        private static final int FAR = 100;

        private final int[] workerLayers = new int[LIMIT];
        private final int[] taskLayers = new int[LIMIT];
        private final int[] path = new int[LIMIT];
        private final int[] pathTasks = new int[LIMIT];
        private int seenTasks = 0;
        private int phaseCount = 0;
        private int wayCount = 0;
        private int firstWays = 0;
        private int lastLength = 0;

        private void run(Search search) {
            search.pairs.clear();
            phaseCount = 0;
            wayCount = 0;
            firstWays = 0;
            lastLength = 0;
            for (int phase = 0; phase <= LIMIT && makeLayers(search); phase++) {
                phaseCount++;
                seenTasks = 0;
                for (int w = 0; w < search.workers; w++) {
                    if (layerOfWorker(w) == 0 && seek(search, w)) {
                        wayCount++;
                    }
                }
                firstWays = phase == 0 ? wayCount : firstWays;
            }
        }

        private int layerOfWorker(int worker) {
            return inLimit(worker) ? workerLayers[worker] : NONE;
        }

        private int layerOfTask(int task) {
            return inLimit(task) ? taskLayers[task] : NONE;
        }

        /** Whether LAYERS come to a FREE TASK. */
        private boolean makeLayers(Search search) {
            int free = search.workersThere & ~search.pairs.workersIn();
            for (int k = 0; k < LIMIT; k++) {
                workerLayers[k] = has(free, k) ? 0 : NONE;
                taskLayers[k] = NONE;
            }
            for (int layer = 0; layer < 2 * LIMIT; layer += 2) {
                int met = nextTasks(search, layer);
                if (met == 0) {
                    return false;
                }
                if ((met & ~search.pairs.tasksIn()) != 0) {
                    return true;
                }
                for (int w = 0; w < LIMIT; w++) {
                    int task = search.pairs.taskOf(w);
                    if (task != NONE && has(met, task)) {
                        workerLayers[w] = layer + 2;
                    }
                }
            }
            return false;
        }

        /** The TASKS that get the LAYER behind that of WORKERS. */
        private int nextTasks(Search search, int layer) {
            int met = 0;
            for (int w = 0; w < LIMIT; w++) {
                if (workerLayers[w] == layer) {
                    met |= search.row(w);
                }
            }
            int fresh = 0;
            for (int t = 0; t < LIMIT; t++) {
                if (has(met, t) && taskLayers[t] == NONE) {
                    taskLayers[t] = layer + 1;
                    fresh |= bit(t);
                }
            }
            return fresh;
        }

        /** Seeks a WAY deep first from a FREE WORKER, and does it. */
        private boolean seek(Search search, int worker) {
            int depth = 0;
            path[0] = worker;
            for (int step = 0; step < FAR && depth >= 0 && depth < LIMIT; step++) {
                int task = nextTask(search, path[depth]);
                if (task == NONE) {
                    depth--;
                    continue;
                }
                seenTasks |= bit(task);
                pathTasks[depth] = task;
                int next = search.pairs.workerOf(task);
                if (next == NONE) {
                    follow(search, depth);
                    return true;
                }
                if (layerOfWorker(next) == layerOfTask(task) + 1 && depth + 1 < LIMIT) {
                    depth++;
                    path[depth] = next;
                }
            }
            return false;
        }

        /** The first TASK of the next LAYER that was not looked at yet. */
        private int nextTask(Search search, int worker) {
            int unseen = search.row(worker) & ~seenTasks;
            for (int t = 0; t < LIMIT && unseen != 0; t++) {
                if (has(unseen, t) && layerOfTask(t) == layerOfWorker(worker) + 1) {
                    return t;
                }
            }
            return NONE;
        }

        private void follow(Search search, int depth) {
            for (int k = 0; k <= depth && k < LIMIT; k++) {
                search.pairs.join(path[k], pathTasks[k]);
            }
            lastLength = 2 * (depth + 1);
        }
    }

    /** ROUNDS: each FIT of two that are THERE gets one. */
    private static final class Calendar {
        private final int[] taskIn = new int[LIMIT * LIMIT];
        private final int[] workerIn = new int[LIMIT * LIMIT];
        private final int[] roundsOfFits = new int[LIMIT * LIMIT];
        private final int[] chainWorkers = new int[2 * LIMIT];
        private final int[] chainTasks = new int[2 * LIMIT];
        private int rounds = 0;

        private void fill(Book book) {
            for (int k = 0; k < LIMIT * LIMIT; k++) {
                taskIn[k] = NONE;
                workerIn[k] = NONE;
                roundsOfFits[k] = NONE;
            }
            rounds = 0;
            for (int w = 0; w < book.workers; w++) {
                for (int t = 0; t < book.tasks; t++) {
                    if (book.isFit(w, t) && book.isThere(0, w) && book.isThere(1, t)) {
                        give(w, t);
                    }
                }
            }
        }

        private int roundOf(int worker, int task) {
            return cellOf(roundsOfFits, worker, task);
        }

        private static int cellOf(int[] cells, int row, int column) {
            return inLimit(row) && inLimit(column) ? cells[row * LIMIT + column] : NONE;
        }

        private static void setCell(int[] cells, int row, int column, int v) {
            if (inLimit(row) && inLimit(column)) {
                cells[row * LIMIT + column] = v;
            }
        }

        /** The least ROUND that none of a WORKER's, a TASK's FITS has. */
        private static int leastLeft(int[] cells, int row) {
            for (int r = 0; r < LIMIT; r++) {
                if (cellOf(cells, row, r) == NONE) {
                    return r;
                }
            }
            return NONE;
        }

        private void give(int worker, int task) {
            int a = leastLeft(taskIn, worker);
            int b = leastLeft(workerIn, task);
            if (cellOf(workerIn, task, a) != NONE) {
                change(task, a, b);
            }
            put(worker, task, a);
        }

        private void put(int worker, int task, int r) {
            setCell(taskIn, worker, r, task);
            setCell(workerIn, task, r, worker);
            setCell(roundsOfFits, worker, task, r);
            rounds = Math.max(rounds, r + 1);
        }

        private void clear(int worker, int task, int r) {
            setCell(taskIn, worker, r, NONE);
            setCell(workerIn, task, r, NONE);
        }

        /** All FITS of ROUNDS a and b in a row from a TASK on change these. */
        private void change(int task, int a, int b) {
            int many = followChain(task, a, b);
            for (int k = 0; k < many && k < 2 * LIMIT; k++) {
                clear(chainWorkers[k], chainTasks[k], k % 2 == 0 ? a : b);
            }
            for (int k = 0; k < many && k < 2 * LIMIT; k++) {
                put(chainWorkers[k], chainTasks[k], k % 2 == 0 ? b : a);
            }
        }

        private int followChain(int task, int a, int b) {
            int many = 0;
            int nowTask = task;
            int nowWorker = cellOf(workerIn, nowTask, a);
            for (int k = 0; k < 2 * LIMIT && nowTask != NONE && nowWorker != NONE; k++) {
                chainWorkers[k] = nowWorker;
                chainTasks[k] = nowTask;
                many++;
                if (k % 2 == 0) {
                    nowTask = cellOf(taskIn, nowWorker, b);
                } else {
                    nowWorker = cellOf(workerIn, nowTask, a);
                }
            }
            return many;
        }
    }

    /**
     * MOST PAIRINGS, counted by the set of TASKS that the WORKERS so far have. Of those of least COST
     * the first is kept as a code: a digit of each WORKER, its TASK less 12 (0 with none).
     */
    private static final class Tally {
        private final long[] ways = new long[SETS];
        private final long[] leastWays = new long[SETS];
        private final long[] codes = new long[SETS];
        private final int[] leastCosts = new int[SETS];
        private final int[] cheapTasks = new int[LIMIT];
        private long many = 0;
        private long cheapMany = 0;
        private int leastCost = 0;

        private void run(Book book, Search search, int nu) {
            int sets = bit(Math.min(LIMIT, search.tasks));
            for (int set = 0; set < sets && set < SETS; set++) {
                ways[set] = 0;
            }
            ways[0] = 1;
            leastWays[0] = 1;
            codes[0] = 0;
            leastCosts[0] = 0;
            int left = Integer.bitCount(search.workersThere);
            long digit = FIRST_DIGIT;
            for (int w = 0; w < LIMIT; w++) {
                if (has(search.workersThere, w)) {
                    extend(book, search.row(w), w, digit, nu - left, sets);
                    left--;
                }
                digit /= DIGIT;
            }
            finish(nu, sets);
        }

        /** One WORKER more; sets below the least size can't come to NU any more. */
        private void extend(Book book, int row, int worker, long digit, int least, int sets) {
            for (int set = sets - 1; set >= 0; set--) {
                int open = row & ~set;
                if (set >= SETS || open == 0 || ways[set] == 0 || Integer.bitCount(set) < least) {
                    continue;
                }
                for (int t = 0; t < LIMIT; t++) {
                    if (has(open, t)) {
                        put(set, set | bit(t), book.costOf(worker, t), digit * (t - LIMIT));
                    }
                }
            }
        }

        private void put(int set, int wider, int c, long digit) {
            if (set < 0 || set >= SETS || wider < 0 || wider >= SETS) {
                return;
            }
            int cost = leastCosts[set] + c;
            long code = codes[set] + digit;
            if (ways[wider] == 0 || cost < leastCosts[wider]) {
                leastCosts[wider] = cost;
                leastWays[wider] = leastWays[set];
                codes[wider] = code;
            } else if (cost == leastCosts[wider]) {
                leastWays[wider] += leastWays[set];
                codes[wider] = Math.min(codes[wider], code);
            }
            ways[wider] += ways[set];
        }

        private void finish(int nu, int sets) {
            many = 0;
            cheapMany = 0;
            leastCost = 0;
            long code = 0;
            for (int set = 0; set < sets && set < SETS; set++) {
                if (ways[set] != 0 && Integer.bitCount(set) == nu) {
                    if (many == 0 || leastCosts[set] < leastCost) {
                        leastCost = leastCosts[set];
                        cheapMany = leastWays[set];
                        code = codes[set];
                    } else if (leastCosts[set] == leastCost) {
                        cheapMany += leastWays[set];
                        code = Math.min(code, codes[set]);
                    }
                    many += ways[set];
                }
            }
            decode(code);
        }

        private void decode(long code) {
            long rest = code + FIRST_DIGIT * DIGIT - 1;
            for (int w = LIMIT - 1; w >= 0; w--) {
                int task = (int) (rest % DIGIT);
                cheapTasks[w] = task < LIMIT ? task : NONE;
                rest /= DIGIT;
            }
        }

        private int taskOf(int worker) {
            return inLimit(worker) ? cheapTasks[worker] : NONE;
        }
    }
}

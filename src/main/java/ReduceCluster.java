import java.util.NoSuchElementException;

/** A cluster that maps and reduces; ../shared/DOC.md says what each call promises. */
public final class ReduceCluster {
    private static final int WORKERS = 4;
    private static final int CHUNKS = 6;
    private static final int NUMBERS = 6;
    private static final int PARTITIONS = 3;
    private static final int MOST_SPEED = 4;
    private static final int MOST_FACTOR = 1000;
    private static final int MOST_TICKS = 100;
    private static final int LEAST_BUFFER = 2;
    private static final int MOST_BUFFER = 6;
    private static final int LAST_FUNCTION = 4;
    private static final int REDUCE_TASKS_FROM = 8;
    private static final int NONE = -1;
    private static final int LEAST_INT = -2147483648;

    // A number is a byte times a factor, so at most 128 * 1000: six digits, and DIGITS gives the most pairs.
    private static final int PAIRS_OF_NUMBER = 6;
    private static final int PAIRS_OF_JOB = CHUNKS * NUMBERS * PAIRS_OF_NUMBER;
    // HALVES gives the most different keys: one for each number.
    private static final int KEYS_OF_JOB = CHUNKS * NUMBERS;

    private static final int MAP_COUNT = 0;
    private static final int MAP_DIGITS = 1;
    private static final int MAP_GROUP = 2;
    private static final int MAP_HALVES = 3;
    private static final int MAP_SIGNS = 4;

    private static final int REDUCE_SUM = 0;
    private static final int REDUCE_HOW_MANY = 1;
    private static final int REDUCE_GREATEST = 2;
    private static final int REDUCE_CHAIN = 3;
    private static final int REDUCE_QUOTIENT = 4;

    private static final int WENT_ON = 0;
    private static final int STUCK = 1;
    private static final int FAILED = 2;

    private final Worker[] workers = new Worker[WORKERS];
    private final Chunk[] chunks = new Chunk[CHUNKS];
    private final Task[] mapTasks = new Task[CHUNKS];
    private final Task[] reduceTasks = new Task[PARTITIONS];
    private final Pairs mapped = new Pairs(PAIRS_OF_NUMBER);
    // Two jobs are enough for all: when one has ended, they change places, so that nothing is made anew.
    private Job job = new Job();
    private Job endedJob = new Job();
    private boolean underWay = false;
    private int chunkCount = 0;
    private int latestMapper = NONE;
    private int nextFilter = LEAST_INT;
    private int ticks = 0;
    private int jobsEnded = 0;
    private int secondTimes = 0;
    private int mapTasksLost = 0;

    public ReduceCluster() {
        for (int w = 0; w < WORKERS; w++) {
            workers[w] = new Worker();
        }
        for (int c = 0; c < CHUNKS; c++) {
            chunks[c] = new Chunk();
            mapTasks[c] = new Task(true, c);
        }
        for (int p = 0; p < PARTITIONS; p++) {
            reduceTasks[p] = new Task(false, p);
        }
    }

    public int chunk(long bytes, int n, int factor) throws IllegalArgumentException, IllegalStateException {
        demandRange(n, 1, NUMBERS);
        demandRange(factor, -MOST_FACTOR, MOST_FACTOR);
        if (underWay || chunkCount >= CHUNKS) {
            throw new IllegalStateException();
        }
        chunks[chunkCount].fill(bytes, n, factor);
        chunkCount++;
        return chunkCount - 1;
    }

    public void worker(int w, boolean up) throws IllegalArgumentException {
        demandRange(w, 0, WORKERS - 1);
        if (workers[w].up == up) {
            return;
        }
        workers[w].up = up;
        if (!up) {
            workers[w].drop();
            loseDisk(w);
        }
    }

    public void speed(int w, int speed) throws IllegalArgumentException {
        demandRange(w, 0, WORKERS - 1);
        demandRange(speed, 1, MOST_SPEED);
        workers[w].unitsPerTick = speed;
    }

    public void filter(int least) {
        nextFilter = least;
    }

    public int begin(int mapper, int reducer, int partitions, int buffer)
            throws IllegalArgumentException, IllegalStateException {
        demandRange(mapper, 0, LAST_FUNCTION);
        demandRange(reducer, 0, LAST_FUNCTION);
        demandRange(partitions, 1, PARTITIONS);
        demandRange(buffer, LEAST_BUFFER, MOST_BUFFER);
        if (underWay || chunkCount == 0) {
            throw new IllegalStateException();
        }
        job.prepare(reducer, partitions, nextFilter);
        latestMapper = mapper;
        underWay = true;
        for (int c = 0; c < chunkCount; c++) {
            mapTasks[c].renew(2 * chunks[c].size, runsOf(mapChunk(c), buffer));
        }
        for (int p = 0; p < partitions; p++) {
            reduceTasks[p].renew(1 + job.taken[p].size, 0);
        }
        return chunkCount;
    }

    public int run(int n) throws IllegalArgumentException, IllegalStateException, ArithmeticException {
        demandRange(n, 1, MOST_TICKS);
        demandJob();
        int done = 0;
        while (done < n && underWay) {
            int came = passTick();
            if (came == STUCK) {
                throw new IllegalStateException();
            }
            if (came == FAILED) {
                throw new ArithmeticException();
            }
            done++;
        }
        return done;
    }

    public void stop() throws IllegalStateException {
        demandJob();
        giveUpJob();
    }

    public int output(int p, int i, int what) throws IllegalArgumentException, NoSuchElementException {
        demandRange(p, 0, PARTITIONS - 1);
        demandRange(what, 0, 1);
        if (p >= endedJob.partitions) {
            throw new NoSuchElementException();
        }
        Pairs pairs = endedJob.reduced[p];
        if (i == -1) {
            return pairs.size;
        }
        if (i < 0 || i >= pairs.size) {
            throw new NoSuchElementException();
        }
        return what == 0 ? pairs.keys[i] : pairs.values[i];
    }

    public int find(int key) throws NoSuchElementException {
        Pairs pairs = endedJob.reduced[endedJob.partitionOf(key)];
        int i = pairs.indexOf(key);
        if (i == NONE) {
            throw new NoSuchElementException();
        }
        return pairs.values[i];
    }

    public int task(boolean map, int t, int what)
            throws IllegalArgumentException, NoSuchElementException, IllegalStateException {
        demandRange(t, 0, (map ? CHUNKS : PARTITIONS) - 1);
        demandRange(what, 0, 3);
        demandJob();
        if (t >= taskCount(map)) {
            throw new NoSuchElementException();
        }
        Task asked = map ? mapTasks[t] : reduceTasks[t];
        switch (what) {
            case 0:
                return stateOf(asked);
            case 1:
                return map || allDone(true) ? asked.units : 0;
            case 2:
                return asked.runs;
            default:
                return asked.isDone() ? asked.doneBy : leastDoer(asked);
        }
    }

    public int ofWorker(int w, int what) throws IllegalArgumentException {
        demandRange(w, 0, WORKERS - 1);
        demandRange(what, 0, 3);
        switch (what) {
            case 0:
                return workers[w].up ? 1 : 0;
            case 1:
                return workers[w].taskNumber();
            case 2:
                return workers[w].unitsLeft;
            default:
                return workers[w].unitsDone;
        }
    }

    public int count(int what) {
        switch (what) {
            case 0:
                return chunkCount;
            case 1:
                return underWay ? 1 : 0;
            case 2:
                return ticks;
            case 3:
                return jobsEnded;
            case 4:
                return secondTimes;
            case 5:
                return mapTasksLost;
            case 6:
                return pairsOfChunks();
            default:
                return -1;
        }
    }

    private static void demandRange(int number, int least, int most) {
        if (number < least || number > most) {
            throw new IllegalArgumentException();
        }
    }

    private void demandJob() {
        if (!underWay) {
            throw new IllegalStateException();
        }
    }

    // Only whole buffers and a last one that holds something become runs.
    private static int runsOf(int pairs, int buffer) {
        return (pairs + buffer - 1) / Math.max(buffer, 1);
    }

    /** Maps the numbers of a chunk for the job that begins; answers how many pairs they gave. */
    private int mapChunk(int c) {
        int given = 0;
        for (int i = 0; i < chunks[c].size; i++) {
            mapNumber(latestMapper, chunks[c].numbers[i], mapped);
            job.take(mapped);
            given += mapped.size;
        }
        return given;
    }

    private int pairsOfChunks() {
        int given = 0;
        for (int c = 0; c < chunkCount; c++) {
            for (int i = 0; i < chunks[c].size; i++) {
                mapNumber(latestMapper, chunks[c].numbers[i], mapped);
                given += mapped.size;
            }
        }
        return given;
    }

    private static void mapNumber(int mapper, int v, Pairs into) {
        into.size = 0;
        switch (mapper) {
            case MAP_COUNT:
                into.append(Math.floorMod(v, 5), 1);
                break;
            case MAP_DIGITS:
                mapDigits(v, into);
                break;
            case MAP_GROUP:
                into.append(Math.floorMod(v, 3), v);
                break;
            case MAP_HALVES:
                if (v % 2 == 0) {
                    into.append(v / 2, v);
                }
                break;
            case MAP_SIGNS:
                into.append(v < 0 ? -1 : v > 0 ? 1 : 0, v);
                if (v != 0) {
                    into.append(2, 1);
                }
                break;
            default:
                break;
        }
    }

    private static void mapDigits(int v, Pairs into) {
        long rest = Math.abs((long) v);
        for (int place = 0; place < PAIRS_OF_NUMBER; place++) {
            into.append((int) (rest % 10), 1);
            rest /= 10;
            if (rest == 0) {
                break;
            }
        }
    }

    /** One tick for all workers; answers how it came out. */
    private int passTick() {
        ticks++;
        boolean somethingDone = false;
        for (int w = 0; w < WORKERS; w++) {
            if (!workers[w].up) {
                continue;
            }
            if (workers[w].task == null) {
                giveTask(w);
            }
            if (workers[w].doUnits()) {
                somethingDone = true;
                if (!completeTask(w)) {
                    giveUpJob();
                    return FAILED;
                }
            }
        }
        if (allDone(true) && allDone(false)) {
            endJob();
            return WENT_ON;
        }
        return somethingDone || anyoneWorks() ? WENT_ON : STUCK;
    }

    /** The worker's task is done by it; answers false if that was a reduce task whose reducer fails. */
    private boolean completeTask(int w) {
        Task task = workers[w].task;
        if (task == null) {
            return true;
        }
        task.doneBy = w;
        for (int other = 0; other < WORKERS; other++) {
            if (workers[other].task == task) {
                workers[other].drop();
            }
        }
        return task.map || job.reduce(task.number);
    }

    private void giveTask(int w) {
        boolean map = !allDone(true);
        Task task = freshTask(map, w);
        if (task == null) {
            task = taskForSecondTime(map);
            if (task == null) {
                return;
            }
            secondTimes++;
        }
        workers[w].take(task);
    }

    private Task freshTask(boolean map, int w) {
        Task[] tasks = map ? mapTasks : reduceTasks;
        Task least = null;
        for (int t = 0; t < taskCount(map); t++) {
            Task task = tasks[t];
            if (task.isDone() || doers(task) > 0 || !canBeDone(task)) {
                continue;
            }
            if (map && isHome(t, w)) {
                return task;
            }
            if (least == null) {
                least = task;
            }
        }
        return least;
    }

    private Task taskForSecondTime(boolean map) {
        Task[] tasks = map ? mapTasks : reduceTasks;
        Task best = null;
        int mostLeft = 0;
        for (int t = 0; t < taskCount(map); t++) {
            Task task = tasks[t];
            int doer = leastDoer(task);
            if (doer == NONE || doers(task) > 1 || !canBeDone(task)) {
                continue;
            }
            if (workers[doer].unitsLeft > mostLeft) {
                best = task;
                mostLeft = workers[doer].unitsLeft;
            }
        }
        return best;
    }

    private static boolean isHome(int c, int w) {
        return w == c % WORKERS || w == (c + 1) % WORKERS;
    }

    private boolean canBeDone(Task task) {
        int c = task.number;
        return !task.map || workers[c % WORKERS].up || workers[(c + 1) % WORKERS].up;
    }

    private int doers(Task task) {
        int doing = 0;
        for (int w = 0; w < WORKERS; w++) {
            if (workers[w].task == task) {
                doing++;
            }
        }
        return doing;
    }

    private int leastDoer(Task task) {
        for (int w = 0; w < WORKERS; w++) {
            if (workers[w].task == task) {
                return w;
            }
        }
        return NONE;
    }

    private int stateOf(Task task) {
        if (task.isDone()) {
            return 2;
        }
        return doers(task) > 0 ? 1 : 0;
    }

    private boolean anyoneWorks() {
        for (int w = 0; w < WORKERS; w++) {
            if (workers[w].task != null) {
                return true;
            }
        }
        return false;
    }

    // No chunk is made while a job is under way, so there are as many map tasks as chunks.
    private int taskCount(boolean map) {
        return map ? chunkCount : job.partitions;
    }

    private boolean allDone(boolean map) {
        Task[] tasks = map ? mapTasks : reduceTasks;
        for (int t = 0; t < taskCount(map); t++) {
            if (!tasks[t].isDone()) {
                return false;
            }
        }
        return true;
    }

    // While a job is under way its reduce tasks can't all be done: it would have ended in that tick.
    private void loseDisk(int w) {
        if (!underWay) {
            return;
        }
        boolean lost = false;
        for (int t = 0; t < chunkCount; t++) {
            if (mapTasks[t].doneBy == w) {
                mapTasks[t].doneBy = NONE;
                mapTasksLost++;
                lost = true;
            }
        }
        if (lost) {
            giveUpReduceTasks();
        }
    }

    private void giveUpReduceTasks() {
        for (int w = 0; w < WORKERS; w++) {
            Task task = workers[w].task;
            if (task != null && !task.map) {
                workers[w].drop();
            }
        }
    }

    private void endJob() {
        Job ended = job;
        job = endedJob;
        endedJob = ended;
        underWay = false;
        jobsEnded++;
    }

    private void giveUpJob() {
        underWay = false;
        for (int w = 0; w < WORKERS; w++) {
            workers[w].drop();
        }
    }

    private static final class Worker {
        boolean up = true;
        int unitsPerTick = 1;
        Task task = null;
        int unitsLeft = 0;
        int unitsDone = 0;

        void take(Task given) {
            task = given;
            unitsLeft = given.units;
        }

        void drop() {
            task = null;
            unitsLeft = 0;
        }

        /** Works for one tick; answers whether the task has come to its end by that. */
        boolean doUnits() {
            if (task == null) {
                return false;
            }
            int units = Math.min(unitsPerTick, unitsLeft);
            unitsDone += units;
            unitsLeft -= units;
            return unitsLeft == 0;
        }

        int taskNumber() {
            if (task == null) {
                return NONE;
            }
            return task.map ? task.number : REDUCE_TASKS_FROM + task.number;
        }
    }

    private static final class Chunk {
        final int[] numbers = new int[NUMBERS];
        int size = 0;

        void fill(long bytes, int n, int factor) {
            size = Math.min(n, NUMBERS);
            for (int i = 0; i < size; i++) {
                numbers[i] = (byte) (bytes >> (8 * i)) * factor;
            }
        }
    }

    private static final class Task {
        final boolean map;
        final int number;
        int units = 0;
        int runs = 0;
        int doneBy = NONE;

        Task(boolean map, int number) {
            this.map = map;
            this.number = number;
        }

        void renew(int unitsBesideRuns, int runs) {
            this.units = unitsBesideRuns + runs;
            this.runs = runs;
            this.doneBy = NONE;
        }

        boolean isDone() {
            return doneBy != NONE;
        }
    }

    /** Pairs in a row that is made once and filled again. */
    private static final class Pairs {
        final int[] keys;
        final int[] values;
        int size = 0;

        Pairs(int room) {
            keys = new int[room];
            values = new int[room];
        }

        void append(int key, int value) {
            if (size < keys.length) {
                keys[size] = key;
                values[size] = value;
                size++;
            }
        }

        // Behind those with the same key, so that what came first stays first.
        void insertByKey(int key, int value) {
            if (size >= keys.length) {
                return;
            }
            int at = size;
            while (at > 0 && keys[at - 1] > key) {
                keys[at] = keys[at - 1];
                values[at] = values[at - 1];
                at--;
            }
            keys[at] = key;
            values[at] = value;
            size++;
        }

        int indexOf(int key) {
            for (int i = 0; i < size; i++) {
                if (keys[i] == key) {
                    return i;
                }
            }
            return NONE;
        }
    }

    /** The reducing side of a job: the pairs that each partition takes, and what they are reduced to. */
    private static final class Job {
        final Pairs[] taken = new Pairs[PARTITIONS];
        final Pairs[] reduced = new Pairs[PARTITIONS];
        int reducer = REDUCE_SUM;
        // None before the first job: so there is no output before one has ended.
        int partitions = 0;
        int least = LEAST_INT;

        Job() {
            for (int p = 0; p < PARTITIONS; p++) {
                taken[p] = new Pairs(PAIRS_OF_JOB);
                reduced[p] = new Pairs(KEYS_OF_JOB);
            }
        }

        void prepare(int reducer, int partitions, int least) {
            this.reducer = reducer;
            this.partitions = partitions;
            this.least = least;
            for (int p = 0; p < PARTITIONS; p++) {
                taken[p].size = 0;
            }
        }

        int partitionOf(int key) {
            return Math.floorMod(key, Math.max(partitions, 1));
        }

        // Runs sorted and merged keep equal keys as they came, and so does each pair put in its place at once:
        // who does a map task, and when, can't change this order, so it is made once when the job begins.
        void take(Pairs pairs) {
            for (int i = 0; i < pairs.size; i++) {
                taken[partitionOf(pairs.keys[i])].insertByKey(pairs.keys[i], pairs.values[i]);
            }
        }

        /** Makes the output of a partition; answers false if the reducer fails. */
        boolean reduce(int p) {
            Pairs in = taken[p];
            Pairs out = reduced[p];
            out.size = 0;
            for (int i = 0; i < in.size; i++) {
                int value = in.values[i];
                if (value < least) {
                    continue;
                }
                int last = out.size - 1;
                if (last < 0 || out.keys[last] != in.keys[i]) {
                    out.append(in.keys[i], reducer == REDUCE_HOW_MANY ? 1 : value);
                } else if (reducer == REDUCE_QUOTIENT && value == 0) {
                    return false;
                } else {
                    out.values[last] = combine(reducer, out.values[last], value);
                }
            }
            return true;
        }

        private static int combine(int reducer, int before, int value) {
            switch (reducer) {
                case REDUCE_SUM:
                    return before + value;
                case REDUCE_HOW_MANY:
                    return before + 1;
                case REDUCE_GREATEST:
                    return Math.max(before, value);
                case REDUCE_CHAIN:
                    return before * 31 + value;
                case REDUCE_QUOTIENT:
                    return value == 0 ? 0 : before / value;
                default:
                    return before;
            }
        }
    }
}

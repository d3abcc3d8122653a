import java.util.ArrayList;
import java.util.Comparator;
import java.util.List;
import java.util.TreeMap;

/**
 * The document once more, word for word and without care for room: runs are made and merged, sets are lists, what
 * can be worked out is worked out anew each time. Answers are texts as those of {@link Script.Answering}.
 */
final class Model {
    private record Pair(int key, int value) { }

    private record Doing(boolean map, int task, int left) { }

    private static final String BAD = "throws.IllegalArgumentException";
    private static final String NOT_NOW = "throws.IllegalStateException";
    private static final String MISSING = "throws.NoSuchElementException";
    private static final String FAILS = "throws.ArithmeticException";

    private final List<List<Integer>> chunks = new ArrayList<>();
    private final boolean[] up = {true, true, true, true};
    private final int[] speeds = {1, 1, 1, 1};
    private final int[] units = new int[4];
    private final Doing[] doing = new Doing[4];
    private int filter = Integer.MIN_VALUE;
    private boolean job = false;
    private int mapper = -1;
    private int reducer;
    private int partitions;
    private int buffer;
    private int jobFilter;
    private final TreeMap<Integer, Integer> mapDoneBy = new TreeMap<>();
    private final TreeMap<Integer, Integer> reduceDoneBy = new TreeMap<>();
    private List<TreeMap<Integer, Integer>> outputs = null;
    private int ticks = 0;
    private int ended = 0;
    private int seconds = 0;
    private int lost = 0;

    String answer(String name, String... a) {
        switch (name) {
            case "chunk":
                return chunk(Long.parseLong(a[0]), at(a, 1), at(a, 2));
            case "worker":
                return worker(at(a, 0), Boolean.parseBoolean(a[1]));
            case "speed":
                if (out(at(a, 0), 0, 3) || out(at(a, 1), 1, 4)) {
                    return BAD;
                }
                speeds[at(a, 0)] = at(a, 1);
                return "void";
            case "filter":
                filter = at(a, 0);
                return "void";
            case "begin":
                return begin(at(a, 0), at(a, 1), at(a, 2), at(a, 3));
            case "run":
                return run(at(a, 0));
            case "stop":
                if (!job) {
                    return NOT_NOW;
                }
                over();
                return "void";
            case "output":
                return output(at(a, 0), at(a, 1), at(a, 2));
            case "find":
                return find(at(a, 0));
            case "task":
                return task(Boolean.parseBoolean(a[0]), at(a, 1), at(a, 2));
            case "ofWorker":
                return ofWorker(at(a, 0), at(a, 1));
            default:
                return "" + count(at(a, 0));
        }
    }

    private static int at(String[] a, int i) {
        return Integer.parseInt(a[i]);
    }

    private static boolean out(int x, int low, int high) {
        return x < low || x > high;
    }

    private String chunk(long bytes, int n, int factor) {
        if (out(n, 1, 6) || out(factor, -1000, 1000)) {
            return BAD;
        }
        if (job || chunks.size() == 6) {
            return NOT_NOW;
        }
        List<Integer> numbers = new ArrayList<>();
        long rest = bytes;
        for (int i = 0; i < n; i++) {
            int low = (int) (rest & 255);
            numbers.add((low > 127 ? low - 256 : low) * factor);
            rest >>= 8;
        }
        chunks.add(numbers);
        return "" + (chunks.size() - 1);
    }

    private String worker(int w, boolean goesUp) {
        if (out(w, 0, 3)) {
            return BAD;
        }
        if (up[w] && !goesUp) {
            doing[w] = null;
            boolean allReduced = reduceDoneBy.size() == partitions;
            if (job && !allReduced && mapDoneBy.containsValue(w)) {
                for (int c = 0; c < chunks.size(); c++) {
                    if (mapDoneBy.containsKey(c) && mapDoneBy.get(c) == w) {
                        mapDoneBy.remove(c);
                        lost++;
                    }
                }
                for (int v = 0; v < 4; v++) {
                    if (doing[v] != null && !doing[v].map) {
                        doing[v] = null;
                    }
                }
            }
        }
        up[w] = goesUp;
        return "void";
    }

    private String begin(int m, int r, int parts, int b) {
        if (out(m, 0, 4) || out(r, 0, 4) || out(parts, 1, 3) || out(b, 2, 6)) {
            return BAD;
        }
        if (job || chunks.isEmpty()) {
            return NOT_NOW;
        }
        job = true;
        mapper = m;
        reducer = r;
        partitions = parts;
        buffer = b;
        jobFilter = filter;
        mapDoneBy.clear();
        reduceDoneBy.clear();
        return "" + chunks.size();
    }

    private void over() {
        job = false;
        for (int w = 0; w < 4; w++) {
            doing[w] = null;
        }
    }

    private List<Pair> map(int v) {
        List<Pair> pairs = new ArrayList<>();
        switch (mapper) {
            case 0:
                pairs.add(new Pair((v % 5 + 5) % 5, 1));
                break;
            case 1:
                String digits = ("" + v).replace("-", "");
                for (int i = digits.length() - 1; i >= 0; i--) {
                    pairs.add(new Pair(digits.charAt(i) - '0', 1));
                }
                break;
            case 2:
                pairs.add(new Pair((v % 3 + 3) % 3, v));
                break;
            case 3:
                if ((v & 1) == 0) {
                    pairs.add(new Pair(v >> 1, v));
                }
                break;
            case 4:
                pairs.add(new Pair(Integer.compare(v, 0), v));
                if (v != 0) {
                    pairs.add(new Pair(2, 1));
                }
                break;
            default:
                break;
        }
        return pairs;
    }

    private List<Pair> pairsOf(int c) {
        List<Pair> pairs = new ArrayList<>();
        chunks.get(c).forEach(v -> pairs.addAll(map(v)));
        return pairs;
    }

    private List<List<Pair>> runsOf(int c) {
        List<List<Pair>> runs = new ArrayList<>();
        List<Pair> gathered = new ArrayList<>();
        for (Pair pair : pairsOf(c)) {
            gathered.add(pair);
            if (gathered.size() == buffer) {
                runs.add(sorted(gathered));
                gathered = new ArrayList<>();
            }
        }
        if (!gathered.isEmpty()) {
            runs.add(sorted(gathered));
        }
        return runs;
    }

    private static List<Pair> sorted(List<Pair> pairs) {
        List<Pair> copy = new ArrayList<>(pairs);
        copy.sort(Comparator.comparingInt(Pair::key));
        return copy;
    }

    /** Of the heads of the rows the one with the least key, of the earlier row first. */
    private static List<Pair> merged(List<List<Pair>> rows) {
        List<List<Pair>> rest = new ArrayList<>();
        rows.forEach(row -> rest.add(new ArrayList<>(row)));
        List<Pair> all = new ArrayList<>();
        while (true) {
            List<Pair> best = null;
            for (List<Pair> row : rest) {
                if (!row.isEmpty() && (best == null || row.get(0).key < best.get(0).key)) {
                    best = row;
                }
            }
            if (best == null) {
                return all;
            }
            all.add(best.remove(0));
        }
    }

    private List<Pair> partition(int p) {
        List<List<Pair>> rows = new ArrayList<>();
        for (int c = 0; c < chunks.size(); c++) {
            List<Pair> row = merged(runsOf(c));
            row.removeIf(pair -> (pair.key % partitions + partitions) % partitions != p);
            rows.add(row);
        }
        return merged(rows);
    }

    /** The output of a partition, null if the reducer fails. */
    private TreeMap<Integer, Integer> reduced(int p) {
        TreeMap<Integer, List<Integer>> values = new TreeMap<>();
        for (Pair pair : partition(p)) {
            if (pair.value >= jobFilter) {
                values.computeIfAbsent(pair.key, k -> new ArrayList<>()).add(pair.value);
            }
        }
        TreeMap<Integer, Integer> output = new TreeMap<>();
        for (int key : values.keySet()) {
            List<Integer> row = values.get(key);
            if (reducer == 4 && row.lastIndexOf(0) > 0) {
                return null;
            }
            output.put(key, reduce(row));
        }
        return output;
    }

    private int reduce(List<Integer> values) {
        switch (reducer) {
            case 0:
                return values.stream().mapToInt(v -> v).sum();
            case 1:
                return values.size();
            case 2:
                return values.stream().mapToInt(v -> v).max().getAsInt();
            case 3:
                return values.stream().reduce(0, (x, v) -> x * 31 + v);
            default:
                return values.stream().reduce((x, v) -> x / v).get();
        }
    }

    private int needs(boolean map, int t) {
        return map ? 2 * chunks.get(t).size() + runsOf(t).size() : 1 + partition(t).size();
    }

    private boolean mapsDone() {
        return mapDoneBy.size() == chunks.size();
    }

    private List<Integer> doers(boolean map, int t) {
        List<Integer> who = new ArrayList<>();
        for (int w = 0; w < 4; w++) {
            if (doing[w] != null && doing[w].map == map && doing[w].task == t) {
                who.add(w);
            }
        }
        return who;
    }

    private boolean home(int c, int w) {
        return (w - c % 4 + 4) % 4 < 2;
    }

    private boolean readable(int c) {
        for (int w = 0; w < 4; w++) {
            if (up[w] && home(c, w)) {
                return true;
            }
        }
        return false;
    }

    private void get(int w) {
        boolean map = !mapsDone();
        List<Integer> open = new ArrayList<>();
        for (int t = 0; t < (map ? chunks.size() : partitions); t++) {
            boolean done = map ? mapDoneBy.containsKey(t) : reduceDoneBy.containsKey(t);
            if (!done && (!map || readable(t))) {
                open.add(t);
            }
        }
        List<Integer> fresh = new ArrayList<>(open);
        fresh.removeIf(t -> !doers(map, t).isEmpty());
        if (!fresh.isEmpty()) {
            int chosen = fresh.stream().filter(t -> map && home(t, w)).findFirst().orElse(fresh.get(0));
            doing[w] = new Doing(map, chosen, needs(map, chosen));
            return;
        }
        open.removeIf(t -> doers(map, t).size() != 1);
        if (!open.isEmpty()) {
            open.sort(Comparator.comparingInt(t -> -doing[doers(map, t).get(0)].left));
            doing[w] = new Doing(map, open.get(0), needs(map, open.get(0)));
            seconds++;
        }
    }

    private String run(int n) {
        if (out(n, 1, 100)) {
            return BAD;
        }
        if (!job) {
            return NOT_NOW;
        }
        for (int i = 1; i <= n; i++) {
            String end = tick();
            if (end != null) {
                return end.isEmpty() ? "" + i : end;
            }
        }
        return "" + n;
    }

    /** Null if the job goes on, an empty text if it has ended, else what is thrown. */
    private String tick() {
        ticks++;
        int doneBefore = mapDoneBy.size() + reduceDoneBy.size();
        for (int w = 0; w < 4; w++) {
            if (up[w] && doing[w] == null) {
                get(w);
            }
            if (up[w] && doing[w] != null && !work(w)) {
                over();
                return FAILS;
            }
        }
        if (mapsDone() && reduceDoneBy.size() == partitions) {
            outputs = new ArrayList<>();
            for (int p = 0; p < partitions; p++) {
                outputs.add(reduced(p));
            }
            ended++;
            over();
            return "";
        }
        boolean busy = false;
        for (Doing one : doing) {
            busy |= one != null;
        }
        return busy || mapDoneBy.size() + reduceDoneBy.size() > doneBefore ? null : NOT_NOW;
    }

    private boolean work(int w) {
        Doing mine = doing[w];
        int amount = Math.min(speeds[w], mine.left);
        units[w] += amount;
        doing[w] = new Doing(mine.map, mine.task, mine.left - amount);
        if (mine.left > amount) {
            return true;
        }
        doers(mine.map, mine.task).forEach(v -> doing[v] = null);
        (mine.map ? mapDoneBy : reduceDoneBy).put(mine.task, w);
        return mine.map || reduced(mine.task) != null;
    }

    private String output(int p, int i, int what) {
        if (out(p, 0, 2) || out(what, 0, 1)) {
            return BAD;
        }
        if (outputs == null || p >= outputs.size() || i < -1 || i >= outputs.get(p).size()) {
            return MISSING;
        }
        if (i == -1) {
            return "" + outputs.get(p).size();
        }
        List<Integer> keys = new ArrayList<>(outputs.get(p).keySet());
        return "" + (what == 0 ? keys.get(i) : outputs.get(p).get(keys.get(i)));
    }

    private String find(int key) {
        if (outputs != null) {
            for (TreeMap<Integer, Integer> output : outputs) {
                if (output.containsKey(key)) {
                    return "" + output.get(key);
                }
            }
        }
        return MISSING;
    }

    private String task(boolean map, int t, int what) {
        if (out(t, 0, map ? 5 : 2) || out(what, 0, 3)) {
            return BAD;
        }
        if (!job) {
            return NOT_NOW;
        }
        if (t >= (map ? chunks.size() : partitions)) {
            return MISSING;
        }
        Integer doneBy = (map ? mapDoneBy : reduceDoneBy).get(t);
        List<Integer> who = doers(map, t);
        switch (what) {
            case 0:
                return doneBy != null ? "2" : who.isEmpty() ? "0" : "1";
            case 1:
                return "" + (map || mapsDone() ? needs(map, t) : 0);
            case 2:
                return "" + (map ? runsOf(t).size() : 0);
            default:
                return "" + (doneBy != null ? doneBy : who.isEmpty() ? -1 : who.get(0));
        }
    }

    private String ofWorker(int w, int what) {
        if (out(w, 0, 3) || out(what, 0, 3)) {
            return BAD;
        }
        Doing mine = doing[w];
        switch (what) {
            case 0:
                return up[w] ? "1" : "0";
            case 1:
                return "" + (mine == null ? -1 : mine.map ? mine.task : 8 + mine.task);
            case 2:
                return "" + (mine == null ? 0 : mine.left);
            default:
                return "" + units[w];
        }
    }

    private int count(int what) {
        int pairs = 0;
        for (int c = 0; c < chunks.size(); c++) {
            pairs += pairsOf(c).size();
        }
        int[] counts = {chunks.size(), job ? 1 : 0, ticks, ended, seconds, lost, pairs};
        return what < 0 || what >= counts.length ? -1 : counts[what];
    }
}

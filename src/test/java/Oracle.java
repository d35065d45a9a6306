import java.util.ArrayList;
import java.util.Arrays;
import java.util.HashMap;
import java.util.HashSet;
import java.util.List;
import java.util.Map;
import java.util.Set;

/**
 * The document once more, as naively as it can be told: texts for what was read, lists for the
 * cache, every simple way tried for the graph, a clock that ticks for the schedule. It shares no
 * code and no layout with Makewheel, so that a slip in one is seen by the other.
 */
final class Oracle {
    private static final class Rule {
        int kind, number, salt, time;
        List<int[]> inputs = new ArrayList<>();

        String inputsText() {
            StringBuilder text = new StringBuilder();
            for (int[] input : inputs) {
                text.append(input[0]).append(':').append(input[1]).append(' ');
            }
            return text.toString();
        }

        String text() {
            return kind + "," + number + "," + salt + "," + time + "|" + inputsText();
        }
    }

    private static final class Kept {
        String rule;
        List<int[]> reads;
        List<String> had;
        int value, from;
    }

    private static final class Entry {
        String key;
        int value, from;
    }

    private static final int HOME = 99;
    private static final int FOUND = 7;

    private final Integer[] files = new Integer[20];
    private final Rule[] rules = new Rule[16];
    private final int[] failing = new int[16];
    private final boolean[] poisoned = new boolean[3];
    private final boolean[] away = new boolean[3];
    private boolean checked;
    private int vanishing;
    private int last = 2;
    private final List<Entry> cache = new ArrayList<>();
    private final Map<Integer, Kept> kept = new HashMap<>();
    private final Set<Integer> leaking = new HashSet<>();

    private Map<Integer, Integer> done = new HashMap<>();
    private Map<Integer, Integer> why = new HashMap<>();
    private Map<Integer, Integer> answers = new HashMap<>();
    private Set<Integer> being = new HashSet<>();
    private int runs;

    private static void index(boolean isThere) {
        if (!isThere) {
            throw new IndexOutOfBoundsException();
        }
    }

    private static void argument(boolean isRight) {
        if (!isRight) {
            throw new IllegalArgumentException();
        }
    }

    private static boolean in(int low, int number, int high) {
        return low <= number && number <= high;
    }

    int write(int file, int content) {
        index(in(0, file, 19));
        argument(in(-1, content, 999));
        int before = files[file] == null ? -1 : files[file];
        files[file] = content == -1 ? null : content;
        return before;
    }

    boolean rule(int target, int kind, int number, int salt, int time) {
        index(in(0, target, 15));
        argument(in(-1, kind, 4) && in(0, number, 999) && in(0, salt, 999) && in(1, time, 20));
        boolean had = rules[target] != null;
        rules[target] = null;
        if (kind >= 0) {
            Rule rule = new Rule();
            rule.kind = kind;
            rule.number = number;
            rule.salt = salt;
            rule.time = time;
            rules[target] = rule;
        }
        return had;
    }

    int input(int target, int what, int which) {
        index(in(0, target, 15));
        if (in(0, what, 3)) {
            index(in(0, which, new int[] {19, 3, 15, 15}[what]));
        }
        argument(in(0, what, 3));
        if (rules[target] == null || rules[target].inputs.size() == 4) {
            throw new IllegalStateException();
        }
        rules[target].inputs.add(new int[] {what, which});
        return rules[target].inputs.size();
    }

    int fails(int target, int times) {
        index(in(0, target, 15));
        argument(in(0, times, 20));
        int before = failing[target];
        failing[target] = times;
        return before;
    }

    boolean poison(int machine, boolean isPoisoned) {
        index(in(0, machine, 2));
        boolean before = away[machine];
        away[machine] = false;
        poisoned[machine] = isPoisoned;
        return before;
    }

    boolean checks(boolean areOn) {
        boolean before = checked;
        checked = areOn;
        return before;
    }

    int vanish(int many) {
        argument(in(0, many, 20));
        int before = vanishing;
        vanishing = many;
        return before;
    }

    int empty() {
        int before = cache.size();
        cache.clear();
        return before;
    }

    int forget() {
        int before = kept.size();
        kept.clear();
        return before;
    }

    int build(int target, int configuration) {
        index(in(0, target, 15) && in(0, configuration, 1));
        done = new HashMap<>();
        why = new HashMap<>();
        answers = new HashMap<>();
        being = new HashSet<>();
        runs = 0;
        int answer = look(2 * target + configuration);
        kept.values().removeIf(each -> each.from != HOME && away[each.from]);
        return answer;
    }

    private int look(int node) {
        if (being.contains(node)) {
            return -4;
        }
        if (!answers.containsKey(node)) {
            being.add(node);
            int answer = lookFirst(node);
            being.remove(node);
            answers.put(node, answer);
            if (answer < 0) {
                kept.remove(node);
                done.put(node, 4);
            }
        }
        return answers.get(node);
    }

    private int lookFirst(int node) {
        Kept old = kept.get(node);
        Rule rule = rules[node / 2];
        int reason = old == null ? 1 : rule == null || !rule.text().equals(old.rule) ? 2 : 0;
        for (int place = 0; reason == 0 && place < old.reads.size(); place++) {
            if (!now(node, old.reads.get(place)).equals(old.had.get(place))) {
                reason = 10 + place;
            }
        }
        why.put(node, reason);
        if (reason == 0) {
            done.put(node, 1);
            return old.value;
        }
        if (rule == null) {
            return -2;
        }
        List<int[]> reads = new ArrayList<>();
        List<String> had = new ArrayList<>();
        int sum = 0;
        for (int place = 0; place < rule.inputs.size(); place++) {
            if (rule.kind == 2 && place != node % 2) {
                continue;
            }
            int[] input = rule.inputs.get(place);
            int value = valueOf(input, each -> look(each), node);
            if (value < 0) {
                return value;
            }
            sum += value;
            reads.add(input);
            had.add(now(node, input));
        }
        if (rule.kind == 3) {
            int[] found = {FOUND, sum % 20};
            reads.add(found);
            had.add(now(node, found));
        }
        return make(node, rule, reads, had, result(rule, sum));
    }

    private int make(int node, Rule rule, List<int[]> reads, List<String> had, int result) {
        if (leaks(rule)) {
            leaking.add(node / 2);
        }
        StringBuilder readsText = new StringBuilder();
        for (int place = 0; place < reads.size(); place++) {
            readsText.append(reads.get(place)[0]).append(':').append(reads.get(place)[1]);
            readsText.append('=').append(had.get(place)).append(' ');
        }
        String key = rule.kind + "," + rule.number + "," + rule.salt + "," + node % 2
            + "|" + rule.inputsText() + "|" + readsText;
        Kept fresh = new Kept();
        fresh.rule = rule.text();
        fresh.reads = reads;
        fresh.had = had;
        for (Entry entry : new ArrayList<>(cache)) {
            if (entry.key.equals(key)) {
                if (vanishing == 0) {
                    fresh.value = entry.value;
                    fresh.from = entry.from;
                    kept.put(node, fresh);
                    done.put(node, 2);
                    return fresh.value;
                }
                vanishing--;
                cache.remove(entry);
            }
        }
        for (int tries = 1; tries <= 3; tries++) {
            int machine = nextMachine();
            runs++;
            if (failing[node / 2] > 0) {
                failing[node / 2]--;
                continue;
            }
            fresh.value = machine != HOME && poisoned[machine] ? (result + 1) % 1000 : result;
            fresh.from = machine;
            if (checked && machine != HOME) {
                runs++;
                if (fresh.value != result) {
                    fresh.value = result;
                    fresh.from = HOME;
                    away[machine] = true;
                    cache.removeIf(each -> each.from == machine);
                    kept.entrySet().removeIf(each -> each.getValue().from == machine
                        && !answers.containsKey(each.getKey()) && !being.contains(each.getKey()));
                }
            }
            Entry entry = new Entry();
            entry.key = key;
            entry.value = fresh.value;
            entry.from = fresh.from;
            cache.add(entry);
            if (cache.size() > 100) {
                cache.remove(0);
            }
            kept.put(node, fresh);
            done.put(node, 3);
            return fresh.value;
        }
        return -5;
    }

    private int nextMachine() {
        for (int step = 1; step <= 3; step++) {
            int machine = (last + step) % 3;
            if (!away[machine]) {
                last = machine;
                return machine;
            }
        }
        return HOME;
    }

    private boolean leaks(Rule rule) {
        if (rule.kind != 4) {
            return false;
        }
        int file = rule.number % 20;
        for (int[] input : rule.inputs) {
            if (input[0] == 0 && input[1] == file || input[0] == 1 && input[1] == file / 5) {
                return false;
            }
        }
        return true;
    }

    private int result(Rule rule, int sum) {
        int more = 0;
        if (rule.kind == 3 && files[sum % 20] != null) {
            more = files[sum % 20];
        }
        if (rule.kind == 4 && !leaks(rule) && files[rule.number % 20] != null) {
            more = files[rule.number % 20];
        }
        return ((rule.kind == 1 ? sum / 10 : sum) + more + rule.salt) % 1000;
    }

    private String now(int node, int[] input) {
        if (input[0] == 1) {
            return Arrays.toString(Arrays.copyOfRange(files, 5 * input[1], 5 * input[1] + 5));
        }
        if (input[0] == 0 || input[0] == FOUND) {
            return String.valueOf(files[input[1]]);
        }
        return String.valueOf(look(2 * input[1] + (input[0] == 3 ? 1 - node % 2 : node % 2)));
    }

    private interface Looking {
        int at(int node);
    }

    private int valueOf(int[] input, Looking looking, int node) {
        if (input[0] == 0) {
            return files[input[1]] == null ? -3 : files[input[1]];
        }
        if (input[0] == 1) {
            int sum = 0;
            for (int file = 5 * input[1]; file < 5 * input[1] + 5; file++) {
                sum += files[file] == null ? 0 : files[file];
            }
            return sum % 1000;
        }
        return looking.at(2 * input[1] + (input[0] == 3 ? 1 - node % 2 : node % 2));
    }

    int plain(int target, int configuration) {
        index(in(0, target, 15) && in(0, configuration, 1));
        return plainly(2 * target + configuration, new ArrayList<>(), new HashMap<>(), new HashMap<>());
    }

    /** Failures are found anew by each path: a way back to a node on the path is a ring. */
    private int plainly(int node, List<Integer> path, Map<Integer, Integer> values,
            Map<Integer, Set<Integer>> needed) {
        if (path.contains(node)) {
            return -4;
        }
        if (values.containsKey(node)) {
            return values.get(node);
        }
        Rule rule = rules[node / 2];
        if (rule == null) {
            return -2;
        }
        List<Integer> longer = new ArrayList<>(path);
        longer.add(node);
        Set<Integer> needs = new HashSet<>();
        int sum = 0;
        for (int place = 0; place < rule.inputs.size(); place++) {
            if (rule.kind == 2 && place != node % 2) {
                continue;
            }
            int value = valueOf(rule.inputs.get(place), each -> {
                needs.add(each);
                return plainly(each, longer, values, needed);
            }, node);
            if (value < 0) {
                return value;
            }
            sum += value;
        }
        needed.put(node, needs);
        values.put(node, result(rule, sum));
        return values.get(node);
    }

    int done(int target, int configuration) {
        index(in(0, target, 15) && in(0, configuration, 1));
        return done.getOrDefault(2 * target + configuration, 0);
    }

    int why(int target, int configuration) {
        index(in(0, target, 15) && in(0, configuration, 1));
        return why.getOrDefault(2 * target + configuration, 0);
    }

    int counts(int what) {
        argument(in(0, what, 3));
        if (what == 0) {
            return runs;
        }
        if (what == 3) {
            return answers.size();
        }
        return (int) done.values().stream().filter(each -> each == (what == 1 ? 2 : 1)).count();
    }

    int entries() {
        return cache.size();
    }

    int away() {
        return (away[0] ? 1 : 0) + (away[1] ? 2 : 0) + (away[2] ? 4 : 0);
    }

    int leaks() {
        return set(leaking);
    }

    private static int set(Set<Integer> members) {
        int set = 0;
        for (int member : members) {
            set += 1 << member;
        }
        return set;
    }

    private boolean needsDirectly(int target, int other) {
        if (rules[target] != null) {
            for (int[] input : rules[target].inputs) {
                if (input[0] >= 2 && input[1] == other) {
                    return true;
                }
            }
        }
        return false;
    }

    /** All pairs, a step more at a time: how far it is from each target to each, a ring to itself. */
    private int[][] distances() {
        int[][] far = new int[16][16];
        for (int i = 0; i < 16; i++) {
            for (int j = 0; j < 16; j++) {
                far[i][j] = needsDirectly(i, j) ? 1 : 1000;
            }
        }
        for (int by = 0; by < 16; by++) {
            for (int i = 0; i < 16; i++) {
                for (int j = 0; j < 16; j++) {
                    far[i][j] = Math.min(far[i][j], far[i][by] + far[by][j]);
                }
            }
        }
        return far;
    }

    int needs(int target) {
        index(in(0, target, 15));
        int[][] far = distances();
        int set = 0;
        for (int other = 0; other < 16; other++) {
            set += far[target][other] < 1000 ? 1 << other : 0;
        }
        return set;
    }

    int users(int target) {
        index(in(0, target, 15) || in(100, target, 119));
        int[][] far = distances();
        Set<Integer> users = new HashSet<>();
        for (int user = 0; user < 16; user++) {
            if (target < 100 && far[user][target] < 1000) {
                users.add(user);
            }
            for (int holder = 0; target >= 100 && holder < 16; holder++) {
                if ((user == holder || far[user][holder] < 1000) && holds(holder, target - 100)) {
                    users.add(user);
                }
            }
        }
        return set(users);
    }

    private boolean holds(int target, int file) {
        if (rules[target] != null) {
            for (int[] input : rules[target].inputs) {
                if (input[0] == 0 && input[1] == file || input[0] == 1 && input[1] == file / 5) {
                    return true;
                }
            }
        }
        return false;
    }

    int ring(int target) {
        index(in(0, target, 15));
        int far = distances()[target][target];
        return far < 1000 ? far : -1;
    }

    int way(int target, int other, int place) {
        index(in(0, target, 15) && in(0, other, 15) && place >= 0);
        argument(target != other);
        List<Integer> best = new ArrayList<>();
        List<Integer> path = new ArrayList<>();
        path.add(target);
        tryWays(path, other, distances()[target][other], best);
        return place < best.size() ? best.get(place) : -1;
    }

    /** Tries the ways of a length in their order, by lower targets first; the first one is it. */
    private void tryWays(List<Integer> path, int other, int steps, List<Integer> best) {
        int here = path.get(path.size() - 1);
        if (!best.isEmpty() || steps >= 1000) {
            return;
        }
        if (steps == 0) {
            if (here == other) {
                best.addAll(path);
            }
            return;
        }
        for (int next = 0; next < 16; next++) {
            if (needsDirectly(here, next)) {
                path.add(next);
                tryWays(path, other, steps - 1, best);
                path.remove(path.size() - 1);
            }
        }
    }

    int time(int target, int configuration, int machines) {
        index(in(0, target, 15) && in(0, configuration, 1));
        argument(in(1, machines, 3));
        int built = 2 * target + configuration;
        Map<Integer, Set<Integer>> needed = new HashMap<>();
        if (plainly(built, new ArrayList<>(), new HashMap<>(), needed) < 0) {
            return -1;
        }
        Map<Integer, Integer> ways = new HashMap<>();
        for (int node : needed.keySet()) {
            wayUp(node, needed, ways);
        }
        Map<Integer, Integer> left = new HashMap<>();
        Set<Integer> over = new HashSet<>();
        int now = 0;
        while (!over.contains(built)) {
            while (left.size() < machines) {
                int best = -1;
                for (int node = 0; node < 32; node++) {
                    boolean canBegin = needed.containsKey(node) && !left.containsKey(node)
                        && !over.contains(node) && over.containsAll(needed.get(node));
                    if (canBegin && (best < 0 || ways.get(node) > ways.get(best))) {
                        best = node;
                    }
                }
                if (best < 0) {
                    break;
                }
                left.put(best, rules[best / 2].time);
            }
            now++;
            for (int node : new ArrayList<>(left.keySet())) {
                left.put(node, left.get(node) - 1);
                if (left.get(node) == 0) {
                    left.remove(node);
                    over.add(node);
                }
            }
        }
        return now;
    }

    private int wayUp(int node, Map<Integer, Set<Integer>> needed, Map<Integer, Integer> ways) {
        if (!ways.containsKey(node)) {
            int longest = 0;
            for (int user : needed.keySet()) {
                if (needed.get(user).contains(node)) {
                    longest = Math.max(longest, wayUp(user, needed, ways));
                }
            }
            ways.put(node, longest + rules[node / 2].time);
        }
        return ways.get(node);
    }
}

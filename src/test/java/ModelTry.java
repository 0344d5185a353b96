import java.util.ArrayList;
import java.util.Arrays;
import java.util.HashSet;
import java.util.List;
import java.util.Set;
import java.util.TreeSet;

/** A second trying of a way, each state by a run of its own from the beginning. */
final class ModelTry {
    final ModelText text;
    final int way;
    final List<List<Integer>> paths = new ArrayList<>();
    final int[] finding = new int[11];
    final List<Integer>[] findingPath;
    final int[] common;
    final boolean[][] comes = new boolean[6][6];
    final TreeSet<int[]> outcomes = new TreeSet<>(Arrays::compare);
    boolean partly;
    int ends;
    int halted;
    int choices;

    @SuppressWarnings({"unchecked", "rawtypes"})
    ModelTry(ModelText text, int way, int limit) {
        this.text = text;
        this.way = way;
        findingPath = new List[11];
        Arrays.fill(finding, -1);
        common = new int[text.cellCount];
        Arrays.fill(common, (1 << text.locks.size()) - 1);
        Set<String> known = new HashSet<>();
        find(List.of(), known);
        for (int s = 0; s < paths.size() && !partly; s++) {
            int many = at(paths.get(s)).choices().size();
            for (int i = 0; i < many; i++) {
                List<Integer> path = new ArrayList<>(paths.get(s));
                path.add(i);
                if (known.contains(at(path).key())) {
                    continue;
                }
                if (paths.size() == limit) {
                    partly = true;
                    break;
                }
                find(path, known);
            }
        }
    }

    ModelRun at(List<Integer> path) {
        ModelRun run = new ModelRun(text, way);
        for (int i : path) {
            run.go(run.choices().get(i));
        }
        return run;
    }

    private void found(int f, List<Integer> path) {
        if (finding[f] < 0) {
            finding[f] = path.size();
            findingPath[f] = path;
        }
    }

    private boolean holds(ModelRun run, ModelText.E e) {
        try {
            return run.eval(-1, e) != 0;
        } catch (ModelRun.Fail f) {
            return false;
        }
    }

    private void find(List<Integer> path, Set<String> known) {
        ModelRun run = at(path);
        known.add(run.key());
        paths.add(path);
        List<ModelRun.Choice> list = run.choices();
        choices += list.size();
        for (int k = 0; k < text.always.size(); k++) {
            if (!holds(run, text.always.get(k))) {
                found(k, path);
            }
        }
        if (list.isEmpty()) {
            ends++;
            outcomes.add(run.cells.clone());
            if (run.anyGoing()) {
                found(8, path);
            } else {
                for (int k = 0; k < text.finals.size(); k++) {
                    if (!holds(run, text.finals.get(k))) {
                        found(4 + k, path);
                    }
                }
            }
        }
        boolean someHalted = false;
        for (int t = 0; t < run.tasks.length; t++) {
            if (run.tasks[t].status == 3) {
                found(9, path);
            }
            if (run.tasks[t].status == 1 && !run.canAct(t)) {
                someHalted = true;
            }
            if (run.canAct(t)) {
                look(run, t);
                for (int u = 0; u < t; u++) {
                    if (run.canAct(u) && racing(run, t, u)) {
                        found(10, path);
                    }
                }
            }
        }
        if (someHalted) {
            halted++;
        }
    }

    private boolean racing(ModelRun run, int t, int u) {
        return ModelRun.sortsRace(run.nextSort(t), run.nextSort(u)) && run.objectOf(t) >= 0
                && run.objectOf(t) == run.objectOf(u) && !run.sure[run.objectOf(t)] && !run.accessFails(t)
                && !run.accessFails(u);
    }

    private void look(ModelRun run, int t) {
        int object = run.objectOf(t);
        for (int l = 0; l < run.holder.length; l++) {
            boolean has = run.holder[l] == t;
            if (run.nextSort(t) <= ModelRun.CAS && object >= 0 && !has) {
                common[object] &= ~(1 << l);
            }
            if (run.nextSort(t) == ModelRun.TAKE && has && l != object) {
                comes[l][object] = true;
            }
        }
    }

    int ring() {
        for (int length = 2; length <= 6; length++) {
            for (int a = 0; a < 6; a++) {
                if (ring(a, a, length)) {
                    return length;
                }
            }
        }
        return 0;
    }

    private boolean ring(int from, int to, int length) {
        if (length == 0) {
            return from == to;
        }
        for (int b = 0; b < 6; b++) {
            if (comes[from][b] && ring(b, to, length - 1)) {
                return true;
            }
        }
        return false;
    }
}

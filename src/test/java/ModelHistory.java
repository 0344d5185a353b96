import java.util.ArrayList;
import java.util.LinkedList;
import java.util.List;

/** A second judge of histories: every row of calls is put together and looked at as a whole. */
final class ModelHistory {
    private final List<ModelRun.Act> events = new ArrayList<>();
    private int structure;
    /** Of each call: kind, value, answer, where it began and ended (-1: not over). */
    private final List<int[]> calls = new ArrayList<>();

    ModelHistory(ModelRun run) {
        for (ModelRun.Act a : run.acts) {
            if (!a.failed && (a.sort == ModelRun.CALL || a.sort == ModelRun.BACK)) {
                events.add(a);
            }
        }
    }

    int manyCalls() {
        int many = 0;
        for (ModelRun.Act a : events) {
            many += a.sort == ModelRun.CALL ? 1 : 0;
        }
        return many;
    }

    int linear(int newStructure) {
        structure = newStructure;
        for (int k = 1; k <= events.size(); k++) {
            takeCalls(k);
            if (!someRow(new ArrayList<>())) {
                return -2 - k;
            }
        }
        return 1;
    }

    private void takeCalls(int upTo) {
        calls.clear();
        int[] open = new int[6];
        for (int i = 0; i < upTo; i++) {
            ModelRun.Act a = events.get(i);
            if (a.sort == ModelRun.CALL) {
                open[a.thread] = calls.size();
                calls.add(new int[] {a.object, a.wrote, 0, i, -1});
            } else {
                calls.get(open[a.thread])[2] = a.wrote;
                calls.get(open[a.thread])[4] = i;
            }
        }
    }

    private boolean someRow(List<Integer> row) {
        if (!isRight(row)) {
            return false;
        }
        if (hasAllThatAreOver(row)) {
            return true;
        }
        for (int c = 0; c < calls.size(); c++) {
            if (!row.contains(c)) {
                row.add(c);
                boolean found = someRow(row);
                row.remove(row.size() - 1);
                if (found) {
                    return true;
                }
            }
        }
        return false;
    }

    private boolean hasAllThatAreOver(List<Integer> row) {
        for (int c = 0; c < calls.size(); c++) {
            if (calls.get(c)[4] >= 0 && !row.contains(c)) {
                return false;
            }
        }
        return true;
    }

    /** Whether a row has all calls in their order, and the answers of those that are over. */
    private boolean isRight(List<Integer> row) {
        for (int c : row) {
            for (int d = 0; d < calls.size(); d++) {
                int end = calls.get(d)[4];
                if (end >= 0 && end < calls.get(c)[3] && !row.contains(d)) {
                    return false;
                }
            }
        }
        for (int i = 0; i < row.size(); i++) {
            for (int j = i + 1; j < row.size(); j++) {
                int end = calls.get(row.get(j))[4];
                if (end >= 0 && end < calls.get(row.get(i))[3]) {
                    return false;
                }
            }
        }
        int cell = 0;
        LinkedList<Integer> held = new LinkedList<>();
        for (int c : row) {
            int[] call = calls.get(c);
            int answer;
            if (structure == 0) {
                answer = call[0] == 0 ? 0 : cell;
                cell = call[0] == 0 || call[0] == 3 ? call[1] : call[0] == 2 ? cell + call[1] : cell;
            } else {
                answer = answer(held, call);
            }
            if (call[4] >= 0 && answer != call[2]) {
                return false;
            }
        }
        return true;
    }

    private int answer(LinkedList<Integer> held, int[] call) {
        Integer v = call[1];
        int many = held.size();
        if (structure == 3) {
            switch (call[0]) {
                case 0:
                    if (held.contains(v)) {
                        return 0;
                    }
                    held.add(v);
                    return 1;
                case 1:
                    return held.remove(v) ? 1 : 0;
                case 2:
                    return held.contains(v) ? 1 : 0;
                default:
                    return many;
            }
        }
        switch (call[0]) {
            case 0:
                held.addLast(v);
                return 0;
            case 1:
                return many == 0 ? -1 : structure == 1 ? held.removeLast() : held.removeFirst();
            case 2:
                return many;
            default:
                held.clear();
                return many;
        }
    }
}

import java.util.ArrayList;
import java.util.List;

/** A second way to run a text, straight by its trees, against which the house's own one is held. */
final class ModelRun {
    static final int READ = 0;
    static final int WRITE = 1;
    static final int SWAP = 2;
    static final int ADD = 3;
    static final int CAS = 4;
    static final int TAKE = 5;
    static final int GIVE = 6;
    static final int WAIT = 7;
    static final int WAKE = 8;
    static final int START = 9;
    static final int JOIN = 10;
    static final int FENCE = 11;
    static final int PAUSE = 12;
    static final int CALL = 13;
    static final int BACK = 14;
    static final int RETAKE = 15;

    static final class Fail extends Exception {
        private static final long serialVersionUID = 1L;
        final int number;

        Fail(int number) {
            this.number = number;
        }
    }

    static final class Frame {
        List<ModelText.S> list;
        int i;
        ModelText.S owner;
        int localsBefore;
    }

    static final class Task {
        int status;
        int failure;
        List<Frame> frames = new ArrayList<>();
        List<String> localNames = new ArrayList<>();
        List<Integer> locals = new ArrayList<>();
        boolean giving;
        int waits = -1;
        int often;
        boolean woken;
        int kind = -1;
        List<int[]> late = new ArrayList<>();
        int failedAt;
    }

    static final class Choice {
        int thread;
        int late = -1;
        int woken = -1;
    }

    static final class Act {
        int thread;
        int sort;
        int object;
        int read;
        int wrote;
        boolean failed;
        boolean sure;
        List<Integer> woken = new ArrayList<>();
    }

    final ModelText text;
    final int way;
    final int[] cells;
    final boolean[] sure;
    final int[] holder;
    final int[] held;
    final Task[] tasks;
    final List<Act> acts = new ArrayList<>();

    ModelRun(ModelText text, int way) {
        this.text = text;
        this.way = way;
        cells = new int[text.cellCount];
        sure = new boolean[text.cellCount];
        for (ModelText.Cell c : text.cells) {
            for (int i = 0; i < c.size; i++) {
                cells[c.first + i] = c.start;
                sure[c.first + i] = c.sure;
            }
        }
        holder = new int[text.locks.size()];
        java.util.Arrays.fill(holder, -1);
        held = new int[text.locks.size()];
        tasks = new Task[text.threads.size()];
        for (int t = 0; t < tasks.length; t++) {
            tasks[t] = new Task();
        }
        for (int t = 0; t < tasks.length; t++) {
            if (!text.idle.get(t)) {
                rouse(t);
            }
        }
    }

    private void rouse(int t) {
        tasks[t].status = 1;
        push(t, text.bodies.get(t), null);
        settle(t);
    }

    private void push(int t, List<ModelText.S> list, ModelText.S owner) {
        Frame f = new Frame();
        f.list = list;
        f.owner = owner;
        f.localsBefore = tasks[t].locals.size();
        tasks[t].frames.add(f);
    }

    private Frame top(int t) {
        return tasks[t].frames.get(tasks[t].frames.size() - 1);
    }

    private void pop(int t) {
        Task k = tasks[t];
        Frame f = k.frames.remove(k.frames.size() - 1);
        while (k.locals.size() > f.localsBefore) {
            k.locals.remove(k.locals.size() - 1);
            k.localNames.remove(k.localNames.size() - 1);
        }
    }

    ModelText.S here(int t) {
        Frame f = top(t);
        return f.list.get(f.i);
    }

    int eval(int t, ModelText.E e) throws Fail {
        switch (e.op) {
            case "whole":
                return e.value;
            case "self":
                return t;
            case "()":
                return eval(t, e.left);
            case "name":
                if (t < 0) {
                    ModelText.Cell c = text.cellOf(e.name, e.index != null);
                    return cells[c.first + (e.index == null ? 0 : Integer.parseInt(e.index.text))];
                }
                return tasks[t].locals.get(tasks[t].localNames.lastIndexOf(e.name.text));
            case "not":
                return eval(t, e.left) == 0 ? 1 : 0;
            case "neg":
                return -eval(t, e.left);
            default:
                break;
        }
        int a = eval(t, e.left);
        int b = eval(t, e.right);
        switch (e.op) {
            case "or":
                return a != 0 | b != 0 ? 1 : 0;
            case "and":
                return a != 0 & b != 0 ? 1 : 0;
            case "==":
                return a == b ? 1 : 0;
            case "!=":
                return a != b ? 1 : 0;
            case "<":
                return a < b ? 1 : 0;
            case "<=":
                return a <= b ? 1 : 0;
            case ">":
                return a > b ? 1 : 0;
            case ">=":
                return a >= b ? 1 : 0;
            case "+":
                return (int) ((long) a + b);
            case "-":
                return (int) ((long) a - b);
            case "*":
                return (int) ((long) a * b);
            default:
                if (b == 0) {
                    throw new Fail(1);
                }
                return e.op.equals("/") ? (int) ((long) a / b) : (int) ((long) a % b);
        }
    }

    /** The sort of the act that a statement is, -1 if it is the thread's own. */
    private int sortOf(int t, ModelText.S s) {
        switch (s.kind) {
            case "let":
            case "set":
                if (s.source.equals("row")) {
                    return READ;
                }
                if (!s.source.equals("sum")) {
                    return s.source.equals("swap") ? SWAP : s.source.equals("add") ? ADD : CAS;
                }
                if (s.first.op.equals("name") && !tasks[t].localNames.contains(s.first.name.text)) {
                    return READ;
                }
                return s.kind.equals("set") && !tasks[t].localNames.contains(s.name.text) ? WRITE : -1;
            case "rowset":
                return WRITE;
            case "lock":
            case "take":
                return TAKE;
            case "give":
                return GIVE;
            case "wait":
                return WAIT;
            case "wake":
            case "wakeall":
                return WAKE;
            case "start":
                return START;
            case "join":
                return JOIN;
            case "fence":
                return FENCE;
            case "pause":
                return PAUSE;
            case "call":
                return CALL;
            case "back":
                return BACK;
            default:
                return -1;
        }
    }

    int nextSort(int t) {
        Task k = tasks[t];
        return k.waits >= 0 ? RETAKE : k.giving ? GIVE : sortOf(t, here(t));
    }

    private void settle(int t) {
        Task k = tasks[t];
        int own = 0;
        while (true) {
            Frame f = top(t);
            if (f.i == f.list.size()) {
                ModelText.S owner = f.owner;
                pop(t);
                if (owner == null) {
                    k.status = 2;
                    return;
                }
                if (owner.kind.equals("lock")) {
                    k.giving = true;
                    return;
                }
                if (owner.kind.equals("if")) {
                    top(t).i++;
                }
                continue;
            }
            ModelText.S s = f.list.get(f.i);
            if (sortOf(t, s) >= 0) {
                return;
            }
            own++;
            try {
                if (own > 300) {
                    throw new Fail(6);
                }
                if (s.kind.equals("end")) {
                    while (!k.frames.isEmpty()) {
                        pop(t);
                    }
                    k.status = 2;
                    return;
                }
                int v = eval(t, s.first);
                switch (s.kind) {
                    case "let":
                        k.localNames.add(s.name.text);
                        k.locals.add(v);
                        f.i++;
                        break;
                    case "set":
                        k.locals.set(k.localNames.lastIndexOf(s.name.text), v);
                        f.i++;
                        break;
                    case "assert":
                        if (v == 0) {
                            throw new Fail(5);
                        }
                        f.i++;
                        break;
                    case "while":
                        if (v != 0) {
                            push(t, s.block, s);
                        } else {
                            f.i++;
                        }
                        break;
                    default:
                        if (v != 0) {
                            push(t, s.block, s);
                        } else if (s.other != null) {
                            push(t, s.other, s);
                        } else {
                            f.i++;
                        }
                }
            } catch (Fail e) {
                k.status = 3;
                k.failure = e.number;
                return;
            }
        }
    }

    private ModelText.Cell cellDef(int t, ModelText.S s) {
        if (s.kind.equals("rowset")) {
            return text.cellOf(s.name, true);
        }
        if (s.cell != null) {
            return text.cellOf(s.cell, s.index != null);
        }
        return nextSort(t) == READ ? text.cellOf(s.first.name, false) : text.cellOf(s.name, false);
    }

    int cellOf(int t) throws Fail {
        ModelText.S s = here(t);
        ModelText.Cell c = cellDef(t, s);
        if (s.index == null) {
            return c.first;
        }
        int i = eval(t, s.index);
        if (i < 0 || i >= c.size) {
            throw new Fail(2);
        }
        return c.first + i;
    }

    int objectOf(int t) {
        int sort = nextSort(t);
        if (sort <= CAS) {
            try {
                return cellOf(t);
            } catch (Fail e) {
                return -1;
            }
        }
        if (sort >= TAKE && sort <= WAKE || sort == RETAKE) {
            return text.indexOf(text.locks, here(t).name);
        }
        if (sort == START || sort == JOIN) {
            return text.indexOf(text.threads, here(t).name);
        }
        return sort == CALL ? Integer.parseInt(here(t).whole.text) : -1;
    }

    int seen(int t, int c) {
        int v = cells[c];
        for (int[] l : tasks[t].late) {
            if (l[0] == c) {
                v = l[1];
            }
        }
        return v;
    }

    boolean canAct(int t) {
        Task k = tasks[t];
        if (k.status != 1) {
            return false;
        }
        int sort = nextSort(t);
        boolean free = k.late.isEmpty();
        if (sort == READ || sort == PAUSE || sort == CALL || sort == BACK) {
            return true;
        }
        if (sort == WRITE) {
            return free || !cellDef(t, here(t)).sure;
        }
        if (!free) {
            return false;
        }
        int o = objectOf(t);
        if (sort == TAKE) {
            return holder[o] == -1 || holder[o] == t;
        }
        if (sort == RETAKE) {
            return k.woken && holder[o] == -1;
        }
        return sort != JOIN || tasks[o].status >= 2 && tasks[o].late.isEmpty();
    }

    List<Integer> waiting(int l) {
        List<Integer> list = new ArrayList<>();
        for (int u = 0; u < tasks.length; u++) {
            if (tasks[u].waits == l && !tasks[u].woken) {
                list.add(u);
            }
        }
        return list;
    }

    List<Choice> choices() {
        List<Choice> list = new ArrayList<>();
        for (int t = 0; t < tasks.length; t++) {
            if (canAct(t)) {
                List<Integer> woken = List.of(-1);
                if (nextSort(t) == WAKE && here(t).kind.equals("wake") && holder[objectOf(t)] == t
                        && !waiting(objectOf(t)).isEmpty()) {
                    woken = waiting(objectOf(t));
                }
                for (int w : woken) {
                    Choice c = new Choice();
                    c.thread = t;
                    c.woken = w;
                    list.add(c);
                }
            }
            List<Integer> cellsSeen = new ArrayList<>();
            for (int j = 0; j < tasks[t].late.size(); j++) {
                int cell = tasks[t].late.get(j)[0];
                if (!cellsSeen.contains(cell)) {
                    Choice c = new Choice();
                    c.thread = t;
                    c.late = j;
                    list.add(c);
                }
                cellsSeen.add(cell);
            }
        }
        return list;
    }

    void go(Choice c) {
        Task k = tasks[c.thread];
        if (c.late >= 0) {
            int[] l = k.late.remove(c.late);
            cells[l[0]] = l[1];
            return;
        }
        Act a = new Act();
        a.thread = c.thread;
        a.sort = nextSort(c.thread);
        a.object = objectOf(c.thread);
        a.sure = a.sort <= CAS && a.object >= 0 && sure[a.object];
        acts.add(a);
        try {
            act(c.thread, a, c.woken);
        } catch (Fail e) {
            a.failed = true;
            a.read = 0;
            a.wrote = 0;
            k.status = 3;
            k.failure = e.number;
            return;
        }
        if (a.sort != WAIT) {
            settle(c.thread);
        }
    }

    private void toLocal(int t, ModelText.S s, int v) {
        Task k = tasks[t];
        if (s.kind.equals("let")) {
            k.localNames.add(s.name.text);
            k.locals.add(v);
        } else {
            k.locals.set(k.localNames.lastIndexOf(s.name.text), v);
        }
    }

    private void act(int t, Act a, int woken) throws Fail {
        Task k = tasks[t];
        ModelText.S s = here(t);
        int o = a.object;
        if (a.sort <= CAS) {
            access(t, a, s);
            top(t).i++;
            return;
        }
        switch (a.sort) {
            case TAKE:
                holder[o] = t;
                held[o]++;
                if (s.kind.equals("lock")) {
                    push(t, s.block, s);
                    return;
                }
                break;
            case GIVE:
                if (holder[o] != t) {
                    throw new Fail(3);
                }
                held[o]--;
                if (held[o] == 0) {
                    holder[o] = -1;
                }
                k.giving = false;
                break;
            case WAIT:
                if (holder[o] != t) {
                    throw new Fail(4);
                }
                k.waits = o;
                k.often = held[o];
                holder[o] = -1;
                held[o] = 0;
                return;
            case RETAKE:
                holder[o] = t;
                held[o] = k.often;
                k.waits = -1;
                k.often = 0;
                k.woken = false;
                break;
            case WAKE:
                if (holder[o] != t) {
                    throw new Fail(4);
                }
                if (s.kind.equals("wakeall")) {
                    a.woken.addAll(waiting(o));
                } else if (woken >= 0) {
                    a.woken.add(woken);
                }
                for (int u : a.woken) {
                    tasks[u].woken = true;
                }
                break;
            case START:
                if (tasks[o].status != 0) {
                    throw new Fail(7);
                }
                rouse(o);
                break;
            case CALL:
            case BACK:
                int v = eval(t, s.first);
                if ((k.kind >= 0) == (a.sort == CALL)) {
                    throw new Fail(8);
                }
                k.kind = a.sort == CALL ? o : -1;
                a.wrote = v;
                break;
            default:
                break;
        }
        top(t).i++;
    }

    private void access(int t, Act a, ModelText.S s) throws Fail {
        Task k = tasks[t];
        int c = cellOf(t);
        if (a.sort == READ) {
            a.read = seen(t, c);
            toLocal(t, s, a.read);
            return;
        }
        int v = eval(t, s.first);
        int w = s.second == null ? 0 : eval(t, s.second);
        if (a.sort == WRITE) {
            if (way == 1 && !sure[c]) {
                if (k.late.size() == 8) {
                    throw new Fail(9);
                }
                k.late.add(new int[] {c, v});
            } else {
                cells[c] = v;
            }
            a.wrote = v;
            return;
        }
        a.read = cells[c];
        int answer = a.read;
        if (a.sort == SWAP) {
            cells[c] = v;
        } else if (a.sort == ADD) {
            cells[c] += v;
        } else {
            answer = cells[c] == v ? 1 : 0;
            if (answer == 1) {
                cells[c] = w;
            }
        }
        a.wrote = cells[c];
        toLocal(t, s, answer);
    }

    /** Whether the access that a thread does next would fail. */
    boolean accessFails(int t) {
        try {
            int c = cellOf(t);
            ModelText.S s = here(t);
            if (nextSort(t) != READ) {
                eval(t, s.first);
                if (s.second != null) {
                    eval(t, s.second);
                }
            }
            return nextSort(t) == WRITE && way == 1 && !sure[c] && tasks[t].late.size() == 8;
        } catch (Fail e) {
            return true;
        }
    }

    boolean anyGoing() {
        for (Task k : tasks) {
            if (k.status == 1) {
                return true;
            }
        }
        return false;
    }

    int line(int t) {
        return tasks[t].status == 1 ? here(t).line : 0;
    }

    int known(int t) {
        return tasks[t].status == 1 || tasks[t].status == 3 ? tasks[t].locals.size() : 0;
    }

    /** All that a state is, as a text. */
    String key() {
        StringBuilder b = new StringBuilder();
        for (int c : cells) {
            b.append(c).append(' ');
        }
        for (int l = 0; l < holder.length; l++) {
            b.append(holder[l]).append('x').append(held[l]).append(' ');
        }
        for (int t = 0; t < tasks.length; t++) {
            Task k = tasks[t];
            b.append("| ").append(k.status).append(' ').append(k.failure).append(' ').append(k.waits).append(' ')
                    .append(k.often).append(' ').append(k.woken).append(' ').append(k.kind).append(' ');
            if (k.status == 1 || k.status == 3) {
                b.append('@').append(here(t).place).append(k.giving).append(k.locals);
            }
            for (int[] l : k.late) {
                b.append(" l").append(l[0]).append('=').append(l[1]);
            }
        }
        return b.toString();
    }

    /** What happens before what, by all pairs and what follows from them. */
    boolean[][] before() {
        int n = acts.size();
        boolean[][] hb = new boolean[n][n];
        for (int b = 0; b < n; b++) {
            for (int a = 0; a < b; a++) {
                hb[a][b] = directly(acts.get(a), acts.get(b), a, b);
            }
        }
        for (int k = 0; k < n; k++) {
            for (int a = 0; a < k; a++) {
                if (hb[a][k]) {
                    for (int b = k + 1; b < n; b++) {
                        hb[a][b] |= hb[k][b];
                    }
                }
            }
        }
        return hb;
    }

    private boolean directly(Act a, Act b, int na, int nb) {
        if (a.thread == b.thread) {
            return true;
        }
        if (a.sort == START && !a.failed && a.object == b.thread) {
            return true;
        }
        if (b.sort == JOIN && b.object == a.thread) {
            return true;
        }
        if (a.failed || b.failed) {
            return false;
        }
        boolean gives = a.sort == GIVE || a.sort == WAIT;
        boolean takes = b.sort == TAKE || b.sort == RETAKE;
        if (gives && takes && a.object == b.object) {
            return true;
        }
        if (a.sure && b.sure && a.object == b.object && a.sort != READ && b.sort != WRITE) {
            return true;
        }
        if (a.sort == WAKE && b.sort == RETAKE && a.woken.contains(b.thread)) {
            // its first retake behind the waking
            for (int k = na + 1; k < nb; k++) {
                if (acts.get(k).sort == RETAKE && acts.get(k).thread == b.thread) {
                    return false;
                }
            }
            return true;
        }
        return false;
    }

    static boolean sortsRace(int a, int b) {
        return a <= CAS && b <= CAS && !(a == READ && b == READ) && !(a >= SWAP && b >= SWAP);
    }

    List<int[]> races(boolean[][] hb) {
        List<int[]> list = new ArrayList<>();
        for (int b = 0; b < acts.size(); b++) {
            for (int a = 0; a < b; a++) {
                Act x = acts.get(a);
                Act y = acts.get(b);
                if (sortsRace(x.sort, y.sort) && x.object == y.object && !x.failed && !y.failed && !x.sure
                        && x.thread != y.thread && !hb[a][b]) {
                    list.add(new int[] {a, b});
                }
            }
        }
        return list;
    }
}

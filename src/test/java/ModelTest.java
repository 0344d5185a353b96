import java.util.List;
import java.util.Random;
import java.util.regex.Matcher;
import java.util.regex.Pattern;

/** Holds the house against the models, by texts that a seed makes: their faults, runs, tryings and histories. */
public final class ModelTest {
    private ModelTest() {
    }

    public static void main(String[] args) {
        int many = args.length > 0 ? Integer.parseInt(args[0]) : 500;
        long first = args.length > 1 ? Long.parseLong(args[1]) : 1;
        int limit = args.length > 2 ? Integer.parseInt(args[2]) : 80;
        for (int k = 0; k < many; k++) {
            String made = Maker.text(first + k);
            compareText(made);
            Random random = new Random(first + k);
            for (int m = 0; m < 8; m++) {
                compareText(Maker.spoiled(made, random));
            }
            compareText(nearTheMost(made, random));
            compareText(nearTheMost(Maker.spoiled(made, random), random));
            ModelText model = new ModelText(made);
            if (model.fault == 0 && made.length() <= 3000) {
                compareRuns(made, model, random);
                compareTries(made, model, limit);
            }
        }
        Checks.end();
    }

    /** A text with so much before it that its end is near the 700th token, and perhaps near the 24th cell. */
    private static String nearTheMost(String made, Random random) {
        int tokens = 0;
        Matcher m = Pattern.compile("[A-Za-z0-9]+|[=!<>]=|\\S").matcher(made);
        while (m.find()) {
            tokens++;
        }
        StringBuilder b = new StringBuilder();
        int rows = random.nextInt(4);
        for (int k = 0; k < rows; k++) {
            b.append("cell zz").append(k).append('[').append(5 + random.nextInt(4)).append("];");
        }
        boolean odd = random.nextBoolean();
        b.append(odd ? "always 1;" : "");
        int left = 700 - 6 * rows - (odd ? 3 : 0) - 4 - tokens + random.nextInt(40) - 10;
        return b + "thread zz{" + "pause;".repeat(Math.max(0, left / 2)) + "}" + made;
    }

    private static void compareText(String made) {
        if (made.length() > 3000) {
            return;
        }
        ModelText model = new ModelText(made);
        ScheduleHouse house = Checks.fed(made);
        int got = house.compile();
        Checks.due("compile of\n" + made, got, model.fault == 0 ? model.threads.size() : -model.fault);
        Checks.due("fault(0) of\n" + made, house.fault(0), model.faultPlace);
        Checks.due("fault(1) of\n" + made, house.fault(1), model.fault == 0 ? -1 : model.lineOf(model.faultPlace));
        Checks.due("cells of\n" + made, house.count(0), model.fault == 0 ? model.cellCount : 0);
    }

    private static void compareRuns(String made, ModelText model, Random random) {
        for (int way = 0; way < 2; way++) {
            ScheduleHouse house = Checks.compiled(made);
            for (int round = 0; round < 3; round++) {
                ModelRun run = new ModelRun(model, way);
                Checks.due("begin of\n" + made, house.begin(way), run.choices().size());
                int done = 0;
                int most = 40;
                for (int k = 0; k < most && !run.choices().isEmpty(); k++) {
                    List<ModelRun.Choice> list = run.choices();
                    if (k % 7 == 0 || round == 0) {
                        compareState(made, house, run, list);
                    }
                    int i = random.nextInt(list.size());
                    run.go(list.get(i));
                    done++;
                    Checks.due("go of\n" + made, house.go(i), run.choices().size());
                }
                compareState(made, house, run, run.choices());
                compareActs(made, house, run);
                Checks.due("done of\n" + made, house.run(1), done);
                if (done > 0) {
                    Checks.due("again of\n" + made, house.again(done), run.choices().size());
                    compareActs(made, house, run);
                }
            }
        }
    }

    private static void compareState(String made, ScheduleHouse house, ModelRun run, List<ModelRun.Choice> list) {
        Checks.due("choices of\n" + made, house.choices(), list.size());
        for (int i = 0; i < list.size(); i++) {
            ModelRun.Choice c = list.get(i);
            boolean late = c.late >= 0;
            Checks.due("choice thread of\n" + made, house.choice(i, 0), c.thread);
            Checks.due("choice late of\n" + made, house.choice(i, 1), late ? 1 : 0);
            Checks.due("choice sort of\n" + made, house.choice(i, 2), late ? 1 : run.nextSort(c.thread));
            Checks.due("choice object of\n" + made, house.choice(i, 3),
                    late ? run.tasks[c.thread].late.get(c.late)[0] : run.objectOf(c.thread));
            Checks.due("choice woken of\n" + made, house.choice(i, 4), c.woken);
        }
        int late = 0;
        for (int t = 0; t < run.tasks.length; t++) {
            ModelRun.Task k = run.tasks[t];
            late += k.late.size();
            Checks.due("status of\n" + made, house.thread(t, 0), k.status);
            Checks.due("failure of\n" + made, house.thread(t, 1), k.failure);
            Checks.due("late of\n" + made, house.thread(t, 2), k.late.size());
            Checks.due("known of\n" + made, house.thread(t, 3), run.known(t));
            Checks.due("line of\n" + made, house.thread(t, 4), run.line(t));
            for (int i = 0; i < run.known(t); i++) {
                Checks.due("local of\n" + made, house.local(t, i), k.locals.get(i));
            }
            for (int c = 0; c < run.cells.length; c++) {
                Checks.due("seen of\n" + made, house.seen(t, c), run.seen(t, c));
            }
        }
        for (int c = 0; c < run.cells.length; c++) {
            Checks.due("cell of\n" + made, house.cell(c), run.cells[c]);
        }
        for (int l = 0; l < run.holder.length; l++) {
            Checks.due("holder of\n" + made, house.lock(l, 0), run.holder[l]);
            Checks.due("often of\n" + made, house.lock(l, 1), run.held[l]);
            Checks.due("waiting of\n" + made, house.lock(l, 2), run.waiting(l).size());
        }
        Checks.due("way", house.run(0), run.way);
        Checks.due("acts", house.run(2), run.acts.size());
        Checks.due("over", house.run(3), list.isEmpty() ? 1 : 0);
        Checks.due("stuck of\n" + made, house.run(4), list.isEmpty() && run.anyGoing() ? 1 : 0);
        Checks.due("late", house.run(7), late);
    }

    private static void compareActs(String made, ScheduleHouse house, ModelRun run) {
        boolean[][] hb = run.before();
        for (int a = 0; a < run.acts.size(); a++) {
            ModelRun.Act act = run.acts.get(a);
            Checks.due("act thread", house.act(a, 0), act.thread);
            Checks.due("act sort", house.act(a, 1), act.sort);
            Checks.due("act object of\n" + made, house.act(a, 2), act.object);
            Checks.due("act read of\n" + made, house.act(a, 3), act.read);
            Checks.due("act wrote of\n" + made, house.act(a, 4), act.wrote);
            for (int b = 0; b < run.acts.size(); b++) {
                Checks.due("before(" + a + ", " + b + ") of\n" + made, house.before(a, b), hb[a][b]);
            }
        }
        List<int[]> races = run.races(hb);
        Checks.due("races of\n" + made, house.run(5), races.size());
        for (int i = 0; i < Math.min(races.size(), house.run(5)); i++) {
            Checks.due("race of\n" + made, house.race(i, 0), races.get(i)[0]);
            Checks.due("race of\n" + made, house.race(i, 1), races.get(i)[1]);
        }
        ModelHistory history = new ModelHistory(run);
        Checks.due("calls of\n" + made, house.run(6), history.manyCalls());
        for (int structure = 0; structure < 4; structure++) {
            int want = history.manyCalls() > 12 ? -1 : history.linear(structure);
            Checks.due("linear(" + structure + ") of\n" + made, house.linear(structure), want);
        }
    }

    private static void compareTries(String made, ModelText model, int limit) {
        ScheduleHouse house = Checks.compiled(made);
        ModelTry[] tries = new ModelTry[2];
        for (int way = 0; way < 2; way++) {
            ModelTry model1 = new ModelTry(model, way, limit);
            tries[way] = model1;
            Checks.due("states of\n" + made, house.attempt(way, limit), model1.paths.size());
            int[] want = {model1.paths.size(), model1.partly ? 1 : 0, model1.ends, model1.outcomes.size(), model1.halted,
                model1.choices};
            for (int what = 0; what < 6; what++) {
                Checks.due("tried(" + way + ", " + what + ") of\n" + made, house.tried(way, what), want[what]);
            }
            int i = 0;
            for (int[] row : model1.outcomes) {
                for (int c = 0; c < row.length; c++) {
                    Checks.due("outcome of\n" + made, house.outcome(way, i, c), row[c]);
                }
                i++;
            }
            for (int c = 0; c < model.cellCount; c++) {
                Checks.due("common of\n" + made, house.common(way, c), model1.common[c]);
            }
            Checks.due("ring of\n" + made, house.ring(way), model1.ring());
            for (int f = 0; f < 11; f++) {
                Checks.due("finding(" + way + ", " + f + ") of\n" + made, house.finding(way, f), model1.finding[f]);
            }
        }
        for (int way = 0; way < 2; way++) {
            for (int f = 0; f < 11; f++) {
                if (tries[way].finding[f] >= 0 && house.finding(way, f) >= 0) {
                    Checks.due("show of\n" + made, house.show(way, f), tries[way].finding[f]);
                    ModelRun run = tries[way].at(tries[way].findingPath[f]);
                    compareState(made, house, run, run.choices());
                }
            }
        }
        boolean same = tries[0].outcomes.size() == tries[1].outcomes.size();
        if (same) {
            same = tries[0].outcomes.containsAll(tries[1].outcomes);
        }
        Checks.due("alike of\n" + made, house.alike(), tries[0].partly || tries[1].partly ? -1 : same ? 1 : 0);
    }
}

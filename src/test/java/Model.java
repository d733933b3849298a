import java.util.ArrayList;
import java.util.Comparator;
import java.util.List;
import java.util.Optional;
import java.util.function.Predicate;

/**
 * The document told a second time, with lists and comparators, to compare the class with. Queues
 * are kept nowhere: they are asked for anew each time.
 */
final class Model {
    static final class Task {
        int number;
        int cpu;
        int weight;
        int cookie;
        long time;
        String state = "READY";
        int run;
        int wait;

        boolean runnable() {
            return state.equals("READY") || state.equals("RUNNING");
        }
    }

    static final class Cpu {
        int number;
        long base;
        Task runs;
        String finding = "";
        int idle;
        int forced;
    }

    final List<Task> tasks = new ArrayList<>();
    final List<Cpu> cpus = new ArrayList<>();
    final List<Integer> cookies = new ArrayList<>();
    boolean stealing;
    int stolen;

    Model(int cores) {
        for (int i = 0; i < cores; i++) {
            cookies.add(-1);
        }
        for (int i = 0; i < 2 * cores; i++) {
            Cpu cpu = new Cpu();
            cpu.number = i;
            cpus.add(cpu);
        }
    }

    int cores() {
        return cookies.size();
    }

    private Comparator<Task> order() {
        return Comparator.<Task>comparingLong(t -> t.time - cpus.get(t.cpu).base)
            .thenComparingInt(t -> t.number);
    }

    private Optional<Task> first(Predicate<Task> which) {
        return tasks.stream().filter(Task::runnable).filter(which).min(order());
    }

    List<Task> queue(int cpu) {
        return tasks.stream().filter(t -> t.runnable() && t.cpu == cpu).sorted(order()).toList();
    }

    int leader(int core) {
        return first(t -> t.cpu / 2 == core).map(t -> t.number).orElse(-1);
    }

    int create(int cpu, int weight, int cookie) {
        Task t = new Task();
        t.number = tasks.size();
        t.cpu = cpu;
        t.weight = weight;
        t.cookie = cookie;
        t.time = Math.max(0, cpus.get(cpu).base);
        tasks.add(t);
        return t.number;
    }

    long wake(int task) {
        Task t = tasks.get(task);
        t.state = "READY";
        t.time = Math.max(t.time, cpus.get(t.cpu).base);
        return t.time;
    }

    void stop(int task, String state) {
        Task t = tasks.get(task);
        t.state = state;
        for (Cpu cpu : cpus) {
            if (cpu.runs == t) {
                cpu.runs = null;
            }
        }
    }

    void move(int task, int cpu) {
        Task t = tasks.get(task);
        if (t.runnable()) {
            t.time = t.time - cpus.get(t.cpu).base + cpus.get(cpu).base;
        }
        t.cpu = cpu;
    }

    int tick() {
        for (int core = 0; core < cores(); core++) {
            pick(core);
        }
        int gained = 0;
        for (Task t : tasks) {
            if (t.state.equals("RUNNING")) {
                t.run++;
                t.time += 5040 / t.weight;
                gained++;
            }
            if (t.state.equals("READY")) {
                t.wait++;
            }
        }
        for (Cpu cpu : cpus) {
            cpu.idle += cpu.finding.equals("idle") ? 1 : 0;
            cpu.forced += cpu.finding.equals("forced") ? 1 : 0;
            long base = cpu.base;
            cpu.base = queue(cpu.number).stream().mapToLong(t -> Math.max(t.time, base)).min()
                .orElse(base);
        }
        return gained;
    }

    private void pick(int core) {
        Cpu[] pair = {cpus.get(2 * core), cpus.get(2 * core + 1)};
        int leader = leader(core);
        for (Cpu cpu : pair) {
            cpu.runs = null;
            cpu.finding = "idle";
        }
        cookies.set(core, -1);
        if (leader >= 0) {
            int cookie = tasks.get(leader).cookie;
            cookies.set(core, cookie);
            for (Cpu cpu : pair) {
                choose(cpu, cookie);
            }
        }
        for (Task t : tasks) {
            if (t.runnable() && t.cpu / 2 == core) {
                t.state = pair[0].runs == t || pair[1].runs == t ? "RUNNING" : "READY";
            }
        }
    }

    private void choose(Cpu cpu, int cookie) {
        Optional<Task> own = first(t -> t.cpu == cpu.number && t.cookie == cookie);
        Optional<Task> foreign = first(t -> t.cpu / 2 != cpu.number / 2 && t.cookie == cookie
            && t.state.equals("READY"));
        if (own.isPresent()) {
            cpu.runs = own.get();
        } else if (stealing && foreign.isPresent()) {
            cpu.runs = foreign.get();
            move(cpu.runs.number, cpu.number);
            stolen++;
        }
        if (cpu.runs != null) {
            cpu.finding = "runs";
        } else {
            cpu.finding = queue(cpu.number).isEmpty() ? "idle" : "forced";
        }
    }
}

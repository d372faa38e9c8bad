import java.util.ArrayList;
import java.util.List;
import java.util.TreeSet;
import java.util.function.BooleanSupplier;

/**
 * Long made-up runs of calls, at most 512 on an object, against a second reading of the document.
 * The numbers come from a fixed sequence, so that every run of this test is the same.
 */
public final class StepDebuggerModel {
    private static final int RUNS = 6000;
    private static final int CALLS = 400;
    private static final int[] ODD = {Integer.MIN_VALUE, Integer.MAX_VALUE, -1, -8, 16, 19, 20, 21, 32, 1 << 30};

    /** The document's target and debugger, held in lists. */
    private static final class Model {
        final List<int[]> program = new ArrayList<>();
        final TreeSet<Integer> breaks = new TreeSet<>();
        int[] register;
        int[] cell;
        List<Integer> stack;
        int position;
        int steps;
        boolean endCarriedOut;
        int reason;

        Model() {
            reset();
        }

        void reset() {
            register = new int[4];
            cell = new int[8];
            stack = new ArrayList<>();
            position = 0;
            steps = 0;
            endCarriedOut = false;
            reason = 0;
        }

        int emit(int op, int a, int b) {
            if (program.size() == 20) return -1;
            if (op < 0 || op > 10) return -2;
            if (a < 0 || a > 3) return -3;
            if ((op == 1 || op == 2 || op == 3 || op == 4) && (b < 0 || b > 3)) return -3;
            program.add(new int[] {op, a, b});
            return program.size() - 1;
        }

        int codeAt(int p) {
            return p < 0 || p >= program.size() ? -1 : program.get(p)[0] + 16 * program.get(p)[1];
        }

        boolean breakAt(int p, boolean on) {
            if (p < 0 || p > 19) return false;
            if (on) breaks.add(p);
            else breaks.remove(p);
            return true;
        }

        int breakpoints() {
            int sum = 0;
            for (int p : breaks) sum += (int) Math.pow(2, p);
            return sum;
        }

        int command(BooleanSupplier aim) {
            if (reason >= 4) return reason;
            int carried = 0;
            while (true) {
                if (endCarriedOut) return reason = 6;
                if (position < 0 || position >= program.size()) return reason = 4;
                int op = program.get(position)[0];
                if (op == 7 && stack.size() == 6 || op == 8 && stack.isEmpty()) return reason = 5;
                if (carried >= 1 && aim.getAsBoolean()) return reason = 1;
                if (carried >= 1 && breaks.contains(position)) return reason = 2;
                if (carried == 150) return reason = 3;
                one(program.get(position));
                carried++;
            }
        }

        void one(int[] code) {
            int a = code[1];
            int b = code[2];
            int next = position + 1;
            steps++;
            if (code[0] == 0) register[a] = b;
            if (code[0] == 1) register[a] = register[a] + register[b];
            if (code[0] == 2) register[a] = register[a] - register[b];
            if (code[0] == 3) register[a] = cell[Math.floorMod(register[b], 8)];
            if (code[0] == 4) cell[Math.floorMod(register[b], 8)] = register[a];
            if (code[0] == 5 && register[a] == 0) next = b;
            if (code[0] == 6) next = b;
            if (code[0] == 7) {
                stack.add(next);
                next = b;
            }
            if (code[0] == 8) next = stack.remove(stack.size() - 1);
            if (code[0] == 9) next = register[a];
            if (code[0] == 10) {
                endCarriedOut = true;
                next = position;
            }
            position = next;
        }

        int stepOver() {
            int before = stack.size();
            int after = position + 1;
            if (codeAt(position) % 16 == 7 && before < 6) {
                return command(() -> stack.size() == before && position == after);
            }
            return command(() -> true);
        }

        int stepOut() {
            int before = stack.size();
            return command(() -> stack.size() < before);
        }

        int peek(int i) {
            if (i >= 0 && i <= 3) return register[i];
            if (i >= 8 && i <= 15) return cell[i - 8];
            if (i >= 16 && i <= 15 + stack.size()) return stack.get(i - 16);
            return 0;
        }
    }

    private static long seed = 20261115L;
    private static int wrong = 0;
    private static final int[] reasons = new int[7];

    private static int below(int bound) {
        seed = seed * 6364136223846793005L + 1442695040888963407L;
        return (int) ((seed >>> 33) % bound);
    }

    private static int odd() {
        return ODD[below(ODD.length)];
    }

    public static void main(String[] args) {
        for (int run = 0; run < RUNS && wrong < 20; run++) {
            oneRun(run);
        }
        for (int reason = 1; reason < reasons.length; reason++) {
            // A run of this test that never meets a reason would say nothing about it.
            due(-1, "commands that answered " + reason, reasons[reason] > 500, true);
        }
        System.out.println(wrong == 0 ? "the model agrees" : wrong + " answers differ from the model");
        if (wrong != 0) {
            System.exit(1);
        }
    }

    private static void due(int run, String call, Object got, Object want) {
        if (!got.equals(want)) {
            wrong++;
            System.out.println("run " + run + ": " + call + " answered " + got + ", due is " + want);
        }
    }

    private static void oneRun(int run) {
        StepDebugger x = new StepDebugger();
        Model m = new Model();
        int size = 1 + below(20);
        for (int i = 0; i < size; i++) {
            emit(run, x, m, size);
        }
        for (int calls = size; calls < CALLS; ) {
            calls += oneCall(run, x, m, size);
            calls += compare(run, x, m);
        }
    }

    private static void emit(int run, StepDebugger x, Model m, int size) {
        // Few ENDs, BACKs and VIAs: otherwise most runs are over at once.
        int[] ops = {0, 0, 1, 2, 3, 4, 5, 5, 6, 7, 7, 8, 8, 9, 10, 0, 1, 4, 3, 7};
        int op = below(60) == 0 ? odd() : ops[below(ops.length)];
        int a = below(60) == 0 ? odd() : below(4);
        boolean two = op >= 1 && op <= 4;
        int b = below(60) == 0 ? odd() : two ? below(4) : below(size);
        due(run, "emit(" + op + ", " + a + ", " + b + ")", x.emit(op, a, b), m.emit(op, a, b));
    }

    private static int oneCall(int run, StepDebugger x, Model m, int size) {
        int p = below(10) == 0 ? odd() : below(size);
        switch (below(12)) {
            case 0:
            case 1:
                return command(run, "step()", x.step(), m.command(() -> true));
            case 2:
            case 3:
                return command(run, "stepOver()", x.stepOver(), m.stepOver());
            case 4:
            case 5:
                return command(run, "stepOut()", x.stepOut(), m.stepOut());
            case 6:
            case 7:
                return command(run, "goTo(" + p + ")", x.goTo(p), m.command(() -> m.position == p));
            case 8:
                return command(run, "go()", x.go(), m.command(() -> false));
            case 9:
                boolean on = below(3) == 0;
                due(run, "breakAt(" + p + ", " + on + ")", x.breakAt(p, on), m.breakAt(p, on));
                return 1;
            case 10:
                if (below(8) == 0) {
                    emit(run, x, m, size);
                    return 1;
                }
                due(run, "codeAt(" + p + ")", x.codeAt(p), m.codeAt(p));
                return 1;
            default:
                if (m.reason >= 4 || below(8) == 0) {
                    x.reset();
                    m.reset();
                }
                return 1;
        }
    }

    private static int command(int run, String call, int got, int want) {
        reasons[want]++;
        due(run, call, got, want);
        return 1;
    }

    private static int compare(int run, StepDebugger x, Model m) {
        int i = below(10) == 0 ? odd() : below(24);
        due(run, "length()", x.length(), m.program.size());
        due(run, "breakpoints()", x.breakpoints(), m.breakpoints());
        due(run, "reason()", x.reason(), m.reason);
        due(run, "position()", x.position(), m.position);
        due(run, "depth()", x.depth(), m.stack.size());
        due(run, "steps()", x.steps(), m.steps);
        due(run, "peek(" + i + ")", x.peek(i), m.peek(i));
        return 7;
    }
}

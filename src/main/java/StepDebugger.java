public final class StepDebugger {
    public static final int FRESH = 0;
    public static final int DONE = 1;
    public static final int BREAK = 2;
    public static final int TIRED = 3;
    public static final int LOST = 4;
    public static final int FAULTED = 5;
    public static final int ENDED = 6;

    private static final int PROGRAM_ROOM = 20;
    private static final int REGISTERS = 4;
    private static final int CELLS = 8;
    private static final int STACK_ROOM = 6;
    private static final int PATIENCE = 150;

    private static final int SET = 0;
    private static final int ADD = 1;
    private static final int SUB = 2;
    private static final int LOAD = 3;
    private static final int STORE = 4;
    private static final int ZERO = 5;
    private static final int JUMP = 6;
    private static final int CALL = 7;
    private static final int BACK = 8;
    private static final int VIA = 9;
    private static final int END = 10;

    private static final int FIRST_CELL = 8;
    private static final int FIRST_RETURN = 16;

    // FRESH is never a reason to stop, so its number is free to mean "go on".
    private static final int GO_ON = FRESH;

    private static final int AIM_NONE = 0;
    private static final int AIM_ONE = 1;
    private static final int AIM_RETURNED = 2;
    private static final int AIM_SHALLOWER = 3;
    private static final int AIM_PLACE = 4;

    private final int[] ops = new int[PROGRAM_ROOM];
    private final int[] firsts = new int[PROGRAM_ROOM];
    private final int[] seconds = new int[PROGRAM_ROOM];
    private int count;

    // Breakpoints are kept beside the program, never in it: codeAt must not show them.
    private int breakBits;

    private final int[] registers = new int[REGISTERS];
    private final int[] memory = new int[CELLS];
    private final int[] returns = new int[STACK_ROOM];
    private int returnCount;
    private int place;
    private int stepCount;
    private boolean ended;
    private int lastReason;

    public StepDebugger() {
        // Java's zeros are the new object: no program, no breakpoints, a fresh target.
    }

    public int emit(int op, int a, int b) {
        if (count >= PROGRAM_ROOM) {
            return -1;
        }
        if (op < SET || op > END) {
            return -2;
        }
        if (!isRegister(a) || (takesTwoRegisters(op) && !isRegister(b))) {
            return -3;
        }
        int at = count;
        ops[at] = op;
        firsts[at] = a;
        seconds[at] = b;
        count = at + 1;
        return at;
    }

    public int length() {
        return count;
    }

    public int codeAt(int p) {
        if (!isInProgram(p)) {
            return -1;
        }
        return ops[p] + 16 * firsts[p];
    }

    public void reset() {
        for (int i = 0; i < REGISTERS; i++) {
            registers[i] = 0;
        }
        for (int i = 0; i < CELLS; i++) {
            memory[i] = 0;
        }
        returnCount = 0;
        place = 0;
        stepCount = 0;
        ended = false;
        lastReason = FRESH;
    }

    public boolean breakAt(int p, boolean on) {
        if (p < 0 || p >= PROGRAM_ROOM) {
            return false;
        }
        int bit = 1 << p;
        breakBits = on ? breakBits | bit : breakBits & ~bit;
        return true;
    }

    public int breakpoints() {
        return breakBits;
    }

    public int step() {
        return run(AIM_ONE, 0);
    }

    public int stepOver() {
        // A CALL that can't be carried out faults before any aim counts, so it needs no case here.
        if (isCallNext()) {
            return run(AIM_RETURNED, place + 1);
        }
        return run(AIM_ONE, 0);
    }

    public int stepOut() {
        return run(AIM_SHALLOWER, 0);
    }

    public int go() {
        return run(AIM_NONE, 0);
    }

    public int goTo(int p) {
        return run(AIM_PLACE, p);
    }

    public int reason() {
        return lastReason;
    }

    public int position() {
        return place;
    }

    public int peek(int i) {
        if (isRegister(i)) {
            return registers[i];
        }
        if (i >= FIRST_CELL && i < FIRST_CELL + CELLS) {
            return memory[i - FIRST_CELL];
        }
        // Positions already popped are still in the array and must not show.
        if (i >= FIRST_RETURN && i < FIRST_RETURN + returnCount) {
            return returns[i - FIRST_RETURN];
        }
        return 0;
    }

    public int depth() {
        return returnCount;
    }

    public int steps() {
        return stepCount;
    }

    private int run(int aim, int goal) {
        if (isOver(lastReason)) {
            return lastReason;
        }
        int depthBefore = returnCount;
        int found = haltReason();
        for (int carried = 1; found == GO_ON && carried <= PATIENCE; carried++) {
            carryOut();
            found = reasonAfter(carried, aim, goal, depthBefore);
        }
        lastReason = found;
        return found;
    }

    private boolean isOver(int reason) {
        return reason == ENDED || reason == LOST || reason == FAULTED;
    }

    private int haltReason() {
        if (ended) {
            return ENDED;
        }
        if (!isInProgram(place)) {
            return LOST;
        }
        int op = ops[place];
        if (op == CALL && returnCount >= STACK_ROOM) {
            return FAULTED;
        }
        if (op == BACK && returnCount <= 0) {
            return FAULTED;
        }
        return GO_ON;
    }

    private int reasonAfter(int carried, int aim, int goal, int depthBefore) {
        int halt = haltReason();
        if (halt != GO_ON) {
            return halt;
        }
        if (isReached(aim, goal, depthBefore)) {
            return DONE;
        }
        if (hasBreak(place)) {
            return BREAK;
        }
        return carried >= PATIENCE ? TIRED : GO_ON;
    }

    private boolean isReached(int aim, int goal, int depthBefore) {
        switch (aim) {
            case AIM_ONE:
                return true;
            case AIM_RETURNED:
                return returnCount == depthBefore && place == goal;
            case AIM_SHALLOWER:
                return returnCount < depthBefore;
            case AIM_PLACE:
                return place == goal;
            case AIM_NONE:
            default:
                return false;
        }
    }

    // Only called when haltReason() found nothing: the position is in the program, and the stack
    // has room for a CALL and something for a BACK.
    private void carryOut() {
        int op = ops[place];
        int a = firsts[place];
        int b = seconds[place];
        stepCount++;
        if (op <= STORE) {
            moveData(op, a, b);
            place++;
        } else if (op == END) {
            ended = true;
        } else {
            place = nextPlace(op, a, b);
        }
    }

    private void moveData(int op, int a, int b) {
        switch (op) {
            case SET:
                registers[a] = b;
                break;
            case ADD:
                registers[a] += registers[b];
                break;
            case SUB:
                registers[a] -= registers[b];
                break;
            case LOAD:
                registers[a] = memory[cellNamedBy(b)];
                break;
            case STORE:
            default:
                memory[cellNamedBy(b)] = registers[a];
                break;
        }
    }

    private int nextPlace(int op, int a, int b) {
        switch (op) {
            case ZERO:
                return registers[a] == 0 ? b : place + 1;
            case JUMP:
                return b;
            case CALL:
                returns[returnCount] = place + 1;
                returnCount++;
                return b;
            case BACK:
                returnCount--;
                return returns[returnCount];
            case VIA:
            default:
                return registers[a];
        }
    }

    // The low bits, not %: a negative register must still name a cell.
    private int cellNamedBy(int register) {
        return registers[register] & (CELLS - 1);
    }

    private boolean isCallNext() {
        return isInProgram(place) && ops[place] == CALL;
    }

    private boolean isInProgram(int p) {
        return p >= 0 && p < count;
    }

    private boolean isRegister(int i) {
        return i >= 0 && i < REGISTERS;
    }

    private boolean takesTwoRegisters(int op) {
        return op >= ADD && op <= STORE;
    }

    private boolean hasBreak(int p) {
        return ((breakBits >> p) & 1) != 0;
    }
}

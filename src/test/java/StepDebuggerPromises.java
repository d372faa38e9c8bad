/** One method per promise of the document; every due answer was worked out by hand from its words. */
public final class StepDebuggerPromises {
    private static final int SET = 0, ADD = 1, SUB = 2, LOAD = 3, STORE = 4, ZERO = 5, JUMP = 6, CALL = 7,
            BACK = 8, VIA = 9, END = 10;
    private static final int FRESH = 0, DONE = 1, BREAK = 2, TIRED = 3, LOST = 4, FAULTED = 5, ENDED = 6;
    private static final int MIN = Integer.MIN_VALUE, MAX = Integer.MAX_VALUE;

    private static int wrong = 0;
    private static String promise = "";

    public static void main(String[] args) {
        constants();
        newObject();
        emit();
        emitWhileRunning();
        lengthAndCodeAt();
        reset();
        breakAtAndBreakpoints();
        dataInstructions();
        memoryModulo();
        jumps();
        callsAndReturns();
        endOfTarget();
        lost();
        faulted();
        orderOfReasons();
        tired();
        step();
        stepOver();
        stepOverOddReturns();
        stepOut();
        go();
        goTo();
        reason();
        position();
        peek();
        depth();
        steps();
        objectsAreApart();
        System.out.println(wrong == 0 ? "all promises are kept" : wrong + " answers are not as due");
        if (wrong != 0) {
            System.exit(1);
        }
    }

    private static void about(String name) {
        promise = name;
    }

    private static void due(String call, int got, int want) {
        if (got != want) {
            wrong++;
            System.out.println(promise + ": " + call + " answered " + got + ", due is " + want);
        }
    }

    private static void due(String call, boolean got, boolean want) {
        due(call, got ? 1 : 0, want ? 1 : 0);
    }

    /** A new object with the program given as op, a, b, op, a, b, .. */
    private static StepDebugger with(int... code) {
        StepDebugger x = new StepDebugger();
        for (int i = 0; i < code.length; i += 3) {
            due("emit in with()", x.emit(code[i], code[i + 1], code[i + 2]), i / 3);
        }
        return x;
    }

    private static void dueTarget(StepDebugger x, int position, int depth, int steps, int reason) {
        due("position()", x.position(), position);
        due("depth()", x.depth(), depth);
        due("steps()", x.steps(), steps);
        due("reason()", x.reason(), reason);
    }

    private static void dueAllZero(StepDebugger x) {
        for (int i = -3; i < 40; i++) {
            due("peek(" + i + ")", x.peek(i), 0);
        }
    }

    private static void constants() {
        about("the constants");
        due("FRESH", StepDebugger.FRESH, FRESH);
        due("DONE", StepDebugger.DONE, DONE);
        due("BREAK", StepDebugger.BREAK, BREAK);
        due("TIRED", StepDebugger.TIRED, TIRED);
        due("LOST", StepDebugger.LOST, LOST);
        due("FAULTED", StepDebugger.FAULTED, FAULTED);
        due("ENDED", StepDebugger.ENDED, ENDED);
    }

    private static void newObject() {
        about("promise 1");
        StepDebugger x = new StepDebugger();
        due("length()", x.length(), 0);
        due("codeAt(0)", x.codeAt(0), -1);
        due("breakpoints()", x.breakpoints(), 0);
        dueTarget(x, 0, 0, 0, FRESH);
        dueAllZero(x);
    }

    private static void emit() {
        about("promise 2");
        StepDebugger x = new StepDebugger();
        int[] badOps = {-1, 11, 16, MIN, MAX};
        for (int op : badOps) {
            due("emit(" + op + ", 0, 0)", x.emit(op, 0, 0), -2);
            due("emit(" + op + ", 9, 9)", x.emit(op, 9, 9), -2);
        }
        int[] badNumbers = {-1, 4, MIN, MAX};
        for (int op = 0; op <= 10; op++) {
            for (int bad : badNumbers) {
                due("emit(" + op + ", " + bad + ", 0)", x.emit(op, bad, 0), -3);
                if (op >= 1 && op <= 4) {
                    due("emit(" + op + ", 0, " + bad + ")", x.emit(op, 0, bad), -3);
                    due("emit(" + op + ", 3, " + bad + ")", x.emit(op, 3, bad), -3);
                }
            }
        }
        due("length() after refusals", x.length(), 0);
        due("codeAt(0) after refusals", x.codeAt(0), -1);
        int at = 0;
        int[] freeB = {SET, ZERO, JUMP, CALL, BACK, VIA, END};
        for (int op : freeB) {
            due("emit(" + op + ", 0, MIN)", x.emit(op, 0, MIN), at++);
            due("emit(" + op + ", 3, MAX)", x.emit(op, 3, MAX), at++);
        }
        for (int op = ADD; op <= STORE; op++) {
            due("emit(" + op + ", 3, 3)", x.emit(op, 3, 3), at++);
        }
        due("emit number 18", x.emit(ADD, 0, 0), at++);
        due("emit number 19", x.emit(END, 1, 0), at++);
        due("length() when full", x.length(), 20);
        due("emit when full", x.emit(END, 2, 0), -1);
        due("emit of a wrong op when full", x.emit(11, 0, 0), -1);
        due("emit of a wrong a when full", x.emit(ADD, 4, 0), -1);
        due("length() after refusals", x.length(), 20);
        due("codeAt(19) after refusals", x.codeAt(19), END + 16);
        due("codeAt(20)", x.codeAt(20), -1);
    }

    private static void emitWhileRunning() {
        about("promise 2, the target is not reset");
        StepDebugger x = with(SET, 0, 5, CALL, 0, 0);
        x.step();
        x.breakAt(1, true);
        due("emit", x.emit(ADD, 0, 0), 2);
        dueTarget(x, 1, 0, 1, DONE);
        due("peek(0)", x.peek(0), 5);
        due("breakpoints()", x.breakpoints(), 2);
        due("a refused emit", x.emit(ADD, 0, 7), -3);
        dueTarget(x, 1, 0, 1, DONE);
    }

    private static void lengthAndCodeAt() {
        about("promises 3 and 4");
        StepDebugger x = new StepDebugger();
        for (int i = 0; i < 20; i++) {
            due("length()", x.length(), i);
            due("codeAt beyond", x.codeAt(i), -1);
            x.emit(i % 11, i % 4, i % 3);
            due("codeAt(" + i + ")", x.codeAt(i), i % 11 + 16 * (i % 4));
        }
        due("length()", x.length(), 20);
        int[] outside = {-1, 20, 21, MIN, MAX};
        for (int p : outside) {
            due("codeAt(" + p + ")", x.codeAt(p), -1);
        }
        for (int i = 0; i < 20; i++) {
            x.breakAt(i, true);
        }
        x.go();
        for (int i = 0; i < 20; i++) {
            due("codeAt(" + i + ") under a breakpoint", x.codeAt(i), i % 11 + 16 * (i % 4));
        }
        due("length() after running", x.length(), 20);
    }

    private static void reset() {
        about("promise 5");
        StepDebugger x = with(SET, 0, 1, SET, 1, 2, SET, 2, 3, SET, 3, 7, STORE, 0, 3, STORE, 0, 0,
                CALL, 0, 7, END, 0, 0);
        x.breakAt(3, true);
        x.breakAt(15, true);
        due("go()", x.go(), BREAK);
        due("go()", x.go(), ENDED);
        dueTarget(x, 7, 1, 8, ENDED);
        due("peek(15)", x.peek(15), 1);
        x.reset();
        dueTarget(x, 0, 0, 0, FRESH);
        dueAllZero(x);
        due("length()", x.length(), 8);
        due("codeAt(3)", x.codeAt(3), 48);
        due("breakpoints()", x.breakpoints(), 1 << 3 | 1 << 15);
        due("go() after the reset", x.go(), BREAK);
        dueTarget(x, 3, 0, 3, BREAK);
        x.reset();
        x.reset();
        dueTarget(x, 0, 0, 0, FRESH);
        resetClearsEveryCell();
    }

    private static void resetClearsEveryCell() {
        StepDebugger x = with(SET, 1, 1, SET, 2, 2, SET, 3, 3, ADD, 0, 1, STORE, 1, 0, JUMP, 0, 3);
        due("go()", x.go(), TIRED);
        for (int i = 8; i < 16; i++) {
            due("peek(" + i + ")", x.peek(i), 1);
        }
        x.reset();
        dueAllZero(x);
        dueTarget(x, 0, 0, 0, FRESH);
    }

    private static void breakAtAndBreakpoints() {
        about("promises 6 and 7");
        StepDebugger x = new StepDebugger();
        int bits = 0;
        for (int p = 0; p < 20; p++) {
            due("breakAt(" + p + ", true)", x.breakAt(p, true), true);
            bits |= 1 << p;
            due("breakpoints()", x.breakpoints(), bits);
        }
        int[] outside = {-1, 20, 31, 32, 33, -32, MIN, MAX};
        for (int p : outside) {
            due("breakAt(" + p + ", true)", x.breakAt(p, true), false);
            due("breakAt(" + p + ", false)", x.breakAt(p, false), false);
            due("breakpoints()", x.breakpoints(), 0xFFFFF);
        }
        due("breakAt(7, true) twice", x.breakAt(7, true), true);
        due("breakpoints()", x.breakpoints(), 0xFFFFF);
        due("breakAt(7, false)", x.breakAt(7, false), true);
        due("breakAt(7, false) twice", x.breakAt(7, false), true);
        due("breakpoints()", x.breakpoints(), 0xFFFFF & ~(1 << 7));
        StepDebugger empty = new StepDebugger();
        for (int p : outside) {
            due("breakAt(" + p + ", true)", empty.breakAt(p, true), false);
            due("breakpoints()", empty.breakpoints(), 0);
        }
        due("breakAt(0, false) with none", empty.breakAt(0, false), true);
        dueTarget(empty, 0, 0, 0, FRESH);
        // A breakpoint put beyond the program holds when the program grows over it.
        empty.breakAt(1, true);
        empty.emit(SET, 0, 1);
        empty.emit(SET, 0, 2);
        due("go()", empty.go(), BREAK);
        dueTarget(empty, 1, 0, 1, BREAK);
    }

    private static void dataInstructions() {
        about("terms, SET ADD SUB");
        StepDebugger x = with(SET, 0, MAX, SET, 1, 1, ADD, 0, 1, SUB, 0, 1, SET, 2, MIN, SUB, 2, 1,
                ADD, 1, 1, SUB, 1, 1, SET, 3, -9, SUB, 1, 3);
        x.step();
        due("peek(0)", x.peek(0), MAX);
        x.step();
        x.step();
        due("peek(0) wrapped up", x.peek(0), MIN);
        due("peek(1) untouched", x.peek(1), 1);
        x.step();
        due("peek(0) wrapped down", x.peek(0), MAX);
        x.step();
        x.step();
        due("peek(2) wrapped down", x.peek(2), MAX);
        x.step();
        due("peek(1) doubled", x.peek(1), 2);
        x.step();
        due("peek(1) less itself", x.peek(1), 0);
        x.step();
        due("peek(3)", x.peek(3), -9);
        due("last step", x.step(), LOST);
        due("peek(1)", x.peek(1), 9);
        dueTarget(x, 10, 0, 10, LOST);
    }

    private static void memoryModulo() {
        about("terms, LOAD STORE");
        int[] numbers = {0, 7, 8, 15, -1, -8, -9, 1003, MIN, MAX};
        int[] cells = {0, 7, 0, 7, 7, 0, 7, 3, 0, 7};
        for (int i = 0; i < numbers.length; i++) {
            StepDebugger x = with(SET, 0, 77, SET, 1, numbers[i], STORE, 0, 1, SET, 0, 0, LOAD, 2, 1, END, 0, 0);
            due("go()", x.go(), ENDED);
            for (int c = 0; c < 8; c++) {
                due("cell " + c + " for " + numbers[i], x.peek(8 + c), c == cells[i] ? 77 : 0);
            }
            due("LOAD by " + numbers[i], x.peek(2), 77);
            due("register 1 stays", x.peek(1), numbers[i]);
            due("register 0", x.peek(0), 0);
        }
        StepDebugger same = with(SET, 1, 13, STORE, 1, 1, SET, 1, 5, LOAD, 1, 1, END, 0, 0);
        due("go()", same.go(), ENDED);
        due("peek(13)", same.peek(13), 13);
        due("LOAD onto its own number", same.peek(1), 13);
    }

    private static void jumps() {
        about("terms, ZERO JUMP VIA");
        StepDebugger x = with(ZERO, 2, 3, END, 0, 0, END, 0, 0, SET, 2, -1, ZERO, 2, 0, JUMP, 3, 7, END, 0, 0,
                SET, 1, 9, VIA, 1, 2, SET, 0, 4);
        x.step();
        due("ZERO taken", x.position(), 3);
        x.step();
        x.step();
        due("ZERO not taken", x.position(), 5);
        x.step();
        due("JUMP", x.position(), 7);
        x.step();
        x.step();
        due("VIA", x.position(), 9);
        dueTarget(x, 9, 0, 6, DONE);
    }

    private static void callsAndReturns() {
        about("terms, CALL BACK");
        StepDebugger x = with(CALL, 2, 3, END, 0, 0, END, 0, 0, CALL, 0, 5, BACK, 1, 7, BACK, 3, 0);
        x.step();
        dueTarget(x, 3, 1, 1, DONE);
        due("peek(16)", x.peek(16), 1);
        x.step();
        dueTarget(x, 5, 2, 2, DONE);
        due("peek(16)", x.peek(16), 1);
        due("peek(17)", x.peek(17), 4);
        x.step();
        dueTarget(x, 4, 1, 3, DONE);
        due("peek(17) is popped", x.peek(17), 0);
        x.step();
        dueTarget(x, 1, 0, 4, DONE);
        due("peek(16) is popped", x.peek(16), 0);
        due("step()", x.step(), ENDED);
    }

    private static int command(StepDebugger x, int which) {
        switch (which) {
            case 0: return x.step();
            case 1: return x.stepOver();
            case 2: return x.stepOut();
            case 3: return x.go();
            case 4: return x.goTo(0);
            default: return x.goTo(x.position());
        }
    }

    /** Once over, every command answers the same and changes nothing, whatever is emitted. */
    private static void dueStaysOver(StepDebugger x, int reason) {
        int position = x.position();
        int depth = x.depth();
        int steps = x.steps();
        for (int which = 0; which < 6; which++) {
            due("command " + which + " when over", command(x, which), reason);
            dueTarget(x, position, depth, steps, reason);
        }
        x.emit(SET, 3, 99);
        x.breakAt(0, true);
        for (int which = 0; which < 6; which++) {
            due("command " + which + " when over, after an emit", command(x, which), reason);
            dueTarget(x, position, depth, steps, reason);
        }
        due("peek(3)", x.peek(3), 0);
    }

    private static void endOfTarget() {
        about("terms, ENDED");
        for (int which = 0; which < 6; which++) {
            StepDebugger x = with(END, 2, 5);
            due("command " + which + " on END", command(x, which), ENDED);
            dueTarget(x, 0, 0, 1, ENDED);
            dueStaysOver(x, ENDED);
            x.reset();
            due("again after a reset", command(x, which), ENDED);
            dueTarget(x, 0, 0, 1, ENDED);
        }
    }

    private static void lost() {
        about("terms, LOST");
        for (int which = 0; which < 6; which++) {
            StepDebugger x = new StepDebugger();
            due("command " + which + " without a program", command(x, which), LOST);
            dueTarget(x, 0, 0, 0, LOST);
            dueStaysOver(x, LOST);
            x.reset();
            x.breakAt(0, false);
            due("step() in the program that grew", x.step(), LOST);
            dueTarget(x, 1, 0, 1, LOST);
        }
        int[] outside = {-1, 2, 20, 32, MIN, MAX};
        for (int p : outside) {
            StepDebugger jump = with(JUMP, 0, p, END, 0, 0);
            due("step() over JUMP to " + p, jump.step(), LOST);
            dueTarget(jump, p, 0, 1, LOST);
            dueStaysOver(jump, LOST);
            StepDebugger call = with(CALL, 0, p, END, 0, 0);
            due("go() over CALL to " + p, call.go(), LOST);
            dueTarget(call, p, 1, 1, LOST);
            due("peek(16)", call.peek(16), 1);
            StepDebugger zero = with(ZERO, 1, p, END, 0, 0);
            due("stepOut() over ZERO to " + p, zero.stepOut(), LOST);
            dueTarget(zero, p, 0, 1, LOST);
            StepDebugger via = with(SET, 3, p, VIA, 3, 0);
            due("goTo(" + p + ") by VIA", via.goTo(p), LOST);
            dueTarget(via, p, 0, 2, LOST);
        }
    }

    private static void faulted() {
        about("terms, FAULTED");
        for (int which = 0; which < 6; which++) {
            StepDebugger back = with(BACK, 0, 0);
            due("command " + which + " on BACK", command(back, which), FAULTED);
            dueTarget(back, 0, 0, 0, FAULTED);
            dueStaysOver(back, FAULTED);
        }
        StepDebugger x = with(CALL, 0, 0);
        for (int i = 1; i <= 5; i++) {
            due("step() " + i, x.step(), DONE);
            dueTarget(x, 0, i, i, DONE);
        }
        due("step() 6", x.step(), FAULTED);
        dueTarget(x, 0, 6, 6, FAULTED);
        for (int i = 16; i <= 21; i++) {
            due("peek(" + i + ")", x.peek(i), 1);
        }
        due("peek(22)", x.peek(22), 0);
        dueStaysOver(x, FAULTED);
        // Six on the stack are no fault in themselves: other instructions and BACK go on.
        StepDebugger full = with(CALL, 0, 1, CALL, 0, 2, CALL, 0, 3, CALL, 0, 4, CALL, 0, 5, CALL, 0, 6,
                SET, 0, 1, BACK, 0, 0);
        due("goTo(7)", full.goTo(7), DONE);
        dueTarget(full, 7, 6, 7, DONE);
        due("step()", full.step(), DONE);
        dueTarget(full, 6, 5, 8, DONE);
        StepDebugger over = with(CALL, 0, 0);
        due("stepOver() into the fault", over.stepOver(), FAULTED);
        dueTarget(over, 0, 6, 6, FAULTED);
    }

    private static void orderOfReasons() {
        about("terms, the order of the reasons");
        StepDebugger ended = with(SET, 0, 1, END, 0, 0);
        ended.breakAt(1, true);
        due("go() to END with a breakpoint", ended.go(), BREAK);
        due("goTo(1) over END", ended.goTo(1), ENDED);
        StepDebugger lost = with(JUMP, 0, 5);
        lost.breakAt(5, true);
        due("goTo(5), lost at a breakpoint", lost.goTo(5), LOST);
        StepDebugger faulted = with(SET, 0, 1, BACK, 0, 0);
        faulted.breakAt(1, true);
        due("goTo(1), faulted at a breakpoint", faulted.goTo(1), FAULTED);
        dueTarget(faulted, 1, 0, 1, FAULTED);
        StepDebugger done = with(SET, 0, 1, SET, 0, 2, END, 0, 0);
        done.breakAt(1, true);
        due("goTo(1) at a breakpoint", done.goTo(1), DONE);
        done.breakAt(2, true);
        due("step() onto a breakpoint", done.step(), DONE);
        StepDebugger outLost = with(CALL, 0, 1, BACK, 0, 0);
        outLost.step();
        due("stepOut() onto a BACK without a return", outLost.stepOut(), FAULTED);
        dueTarget(outLost, 1, 0, 2, FAULTED);
        StepDebugger overLost = with(JUMP, 0, 2, BACK, 0, 0, CALL, 0, 1);
        due("step()", overLost.step(), DONE);
        due("stepOver() of a last CALL", overLost.stepOver(), LOST);
        dueTarget(overLost, 3, 0, 3, LOST);
    }

    private static StepDebugger straightLoop(int length) {
        StepDebugger x = new StepDebugger();
        for (int i = 0; i < length - 1; i++) {
            x.emit(ADD, 0, 1);
        }
        x.emit(JUMP, 0, 0);
        return x;
    }

    private static void tired() {
        about("terms, TIRED");
        StepDebugger x = with(JUMP, 0, 0);
        int[] tiring = {2, 3};
        int steps = 0;
        for (int which : tiring) {
            due("command " + which, command(x, which), TIRED);
            steps += 150;
            dueTarget(x, 0, 0, steps, TIRED);
        }
        due("goTo(1)", x.goTo(1), TIRED);
        dueTarget(x, 0, 0, 450, TIRED);
        due("step() after TIRED", x.step(), DONE);
        dueTarget(x, 0, 0, 451, DONE);
        StepDebugger called = with(CALL, 0, 1, JUMP, 0, 1);
        due("stepOver() of a call that does not return", called.stepOver(), TIRED);
        dueTarget(called, 1, 1, 150, TIRED);
        tiredAtTheLastInstruction();
    }

    /** The 150th instruction still ends, loses, faults, reaches its aim or meets a breakpoint. */
    private static void tiredAtTheLastInstruction() {
        // r0 counts down from 49: 2 instructions to set up, 3 for each round, then ZERO leaves as number 150.
        for (int last = 0; last < 5; last++) {
            StepDebugger x = with(SET, 0, 49, SET, 1, 1, ZERO, 0, 6, SUB, 0, 1, JUMP, 0, 2, END, 0, 0);
            if (last != 0) {
                x.emit(last == 1 ? BACK : SET, 0, 0);
            }
            if (last == 3) {
                x.breakAt(6, true);
            }
            int got = last == 2 ? x.goTo(6) : x.go();
            int[] want = {LOST, FAULTED, DONE, BREAK, TIRED};
            due("150 instructions, case " + last, got, want[last]);
            dueTarget(x, 6, 0, 150, want[last]);
        }
        // One round less and two more to set up: END itself is number 150.
        StepDebugger end = with(SET, 0, 48, SET, 1, 1, SET, 2, 1, SET, 2, 1, ZERO, 0, 7, SUB, 0, 1, JUMP, 0, 4,
                END, 0, 0);
        end.step();
        due("go() to END as number 149", end.go(), ENDED);
        dueTarget(end, 7, 0, 150, ENDED);
        end.reset();
        due("go() to END as number 150", end.go(), ENDED);
        dueTarget(end, 7, 0, 150, ENDED);
        StepDebugger ring = straightLoop(7);
        due("go() in a ring of 7", ring.go(), TIRED);
        dueTarget(ring, 150 % 7, 0, 150, TIRED);
        due("go() in a ring of 7", ring.go(), TIRED);
        dueTarget(ring, 300 % 7, 0, 300, TIRED);
    }

    private static void step() {
        about("promise 8");
        StepDebugger x = with(SET, 0, 3, JUMP, 0, 1, END, 0, 0);
        x.breakAt(0, true);
        x.breakAt(1, true);
        due("step() from a breakpoint", x.step(), DONE);
        dueTarget(x, 1, 0, 1, DONE);
        due("peek(0)", x.peek(0), 3);
        due("step() to where it was", x.step(), DONE);
        dueTarget(x, 1, 0, 2, DONE);
        StepDebugger call = with(CALL, 0, 2, END, 0, 0, BACK, 0, 0);
        due("step() into a call", call.step(), DONE);
        dueTarget(call, 2, 1, 1, DONE);
        StepDebugger last = with(SET, 0, 3);
        due("step() off the program", last.step(), LOST);
        dueTarget(last, 1, 0, 1, LOST);
        StepDebugger fault = with(SET, 0, 3, BACK, 0, 0);
        due("step() onto a fault", fault.step(), FAULTED);
        dueTarget(fault, 1, 0, 1, FAULTED);
    }

    private static void stepOver() {
        about("promise 9");
        StepDebugger x = with(CALL, 0, 3, SET, 0, 1, END, 0, 0, CALL, 0, 5, BACK, 0, 0, SET, 1, 1, BACK, 0, 0);
        due("stepOver() of nested calls", x.stepOver(), DONE);
        dueTarget(x, 1, 0, 5, DONE);
        due("stepOver() of SET", x.stepOver(), DONE);
        dueTarget(x, 2, 0, 6, DONE);
        due("stepOver() of END", x.stepOver(), ENDED);
        x.reset();
        x.step();
        due("stepOver() of the inner call", x.stepOver(), DONE);
        dueTarget(x, 4, 1, 4, DONE);
        due("stepOver() of BACK", x.stepOver(), DONE);
        dueTarget(x, 1, 0, 5, DONE);
        x.reset();
        x.breakAt(5, true);
        due("stepOver() onto a breakpoint in the call", x.stepOver(), BREAK);
        dueTarget(x, 5, 2, 2, BREAK);
        x.reset();
        x.breakAt(5, false);
        x.breakAt(1, true);
        due("stepOver() onto a breakpoint after the call", x.stepOver(), DONE);
        dueTarget(x, 1, 0, 5, DONE);
    }

    private static void stepOverOddReturns() {
        about("promise 9, odd returns");
        // The call goes to the position after it: the first visit is one deeper, so it isn't the aim.
        StepDebugger next = with(CALL, 0, 1, ZERO, 0, 3, END, 0, 0, SET, 0, 1, BACK, 0, 0);
        due("stepOver() of a CALL to the next", next.stepOver(), DONE);
        dueTarget(next, 1, 0, 4, DONE);
        // A recursion passes the position after the CALL at greater depth before the aim.
        StepDebugger deep = with(SET, 0, 2, SET, 1, 1, CALL, 0, 4, END, 0, 0, ZERO, 0, 8, SUB, 0, 1, CALL, 0, 4,
                SET, 2, 1, BACK, 0, 0);
        due("goTo(6)", deep.goTo(6), DONE);
        dueTarget(deep, 6, 1, 5, DONE);
        due("stepOver() of a call in the recursion", deep.stepOver(), DONE);
        dueTarget(deep, 7, 1, 13, DONE);
        due("peek(0)", deep.peek(0), 0);
        due("peek(2)", deep.peek(2), 1);
        // The depth before the command need not be 0.
        StepDebugger inside = with(CALL, 0, 2, SET, 0, 1, CALL, 0, 4, END, 0, 0, ZERO, 0, 5, BACK, 0, 0);
        inside.step();
        due("stepOver() from depth 1", inside.stepOver(), DONE);
        dueTarget(inside, 3, 1, 4, DONE);
        StepDebugger ends = with(CALL, 0, 2, SET, 0, 1, END, 0, 0);
        due("stepOver() of a call that ends", ends.stepOver(), ENDED);
        dueTarget(ends, 2, 1, 2, ENDED);
        StepDebugger jumpsOut = with(CALL, 0, 2, JUMP, 0, 1, JUMP, 0, 1);
        due("stepOver() whose callee jumps behind the CALL", jumpsOut.stepOver(), TIRED);
        dueTarget(jumpsOut, 1, 1, 150, TIRED);
    }

    private static void stepOut() {
        about("promise 10");
        StepDebugger x = with(CALL, 0, 2, END, 0, 0, CALL, 0, 4, BACK, 0, 0, SET, 0, 1, BACK, 0, 0);
        x.step();
        x.step();
        dueTarget(x, 4, 2, 2, DONE);
        due("stepOut()", x.stepOut(), DONE);
        dueTarget(x, 3, 1, 4, DONE);
        due("stepOut()", x.stepOut(), DONE);
        dueTarget(x, 1, 0, 5, DONE);
        due("stepOut() with nothing to leave", x.stepOut(), ENDED);
        dueTarget(x, 1, 0, 6, ENDED);
        x.reset();
        due("stepOut() from the top", x.stepOut(), ENDED);
        dueTarget(x, 1, 0, 6, ENDED);
        x.reset();
        x.step();
        due("stepOut() over an inner call", x.stepOut(), DONE);
        dueTarget(x, 1, 0, 5, DONE);
        x.reset();
        x.step();
        x.breakAt(3, true);
        due("stepOut() onto a breakpoint", x.stepOut(), BREAK);
        dueTarget(x, 3, 1, 4, BREAK);
        x.breakAt(1, true);
        due("stepOut() out onto a breakpoint", x.stepOut(), DONE);
        dueTarget(x, 1, 0, 5, DONE);
    }

    private static void go() {
        about("promise 11");
        StepDebugger x = with(SET, 0, 1, ADD, 1, 0, JUMP, 0, 1, END, 0, 0);
        x.breakAt(0, true);
        x.breakAt(1, true);
        due("go() from a breakpoint", x.go(), BREAK);
        dueTarget(x, 1, 0, 1, BREAK);
        due("go() round to the same breakpoint", x.go(), BREAK);
        dueTarget(x, 1, 0, 3, BREAK);
        due("peek(1)", x.peek(1), 1);
        x.breakAt(1, false);
        due("go() without one in the ring", x.go(), TIRED);
        dueTarget(x, 1, 0, 153, TIRED);
        due("peek(1)", x.peek(1), 76);
        StepDebugger line = with(SET, 0, 1, SET, 1, 2, END, 0, 0);
        due("go() to the end", line.go(), ENDED);
        dueTarget(line, 2, 0, 3, ENDED);
        for (int p = 0; p < 19; p++) {
            StepDebugger ring = straightLoop(20);
            ring.breakAt(p + 1, true);
            due("go() to the breakpoint at " + (p + 1), ring.go(), BREAK);
            due("position()", ring.position(), p + 1);
        }
    }

    private static void goTo() {
        about("promise 12");
        StepDebugger x = straightLoop(5);
        due("goTo(3)", x.goTo(3), DONE);
        dueTarget(x, 3, 0, 3, DONE);
        due("goTo(3) from there goes round", x.goTo(3), DONE);
        dueTarget(x, 3, 0, 8, DONE);
        x.breakAt(0, true);
        due("goTo(2) by a breakpoint", x.goTo(2), BREAK);
        dueTarget(x, 0, 0, 10, BREAK);
        due("goTo(2) from the breakpoint", x.goTo(2), DONE);
        dueTarget(x, 2, 0, 12, DONE);
        x.breakAt(0, false);
        int[] never = {-1, 5, 20, MIN, MAX};
        int steps = 12;
        for (int p : never) {
            due("goTo(" + p + ")", x.goTo(p), TIRED);
            steps += 150;
            dueTarget(x, 2, 0, steps, TIRED);
        }
        // The depth does not matter to goTo.
        StepDebugger deep = with(CALL, 0, 2, END, 0, 0, SET, 0, 1, BACK, 0, 0);
        due("goTo(3) in a call", deep.goTo(3), DONE);
        dueTarget(deep, 3, 1, 2, DONE);
    }

    private static void reason() {
        about("promise 13");
        StepDebugger x = with(SET, 0, 1, JUMP, 0, 1, END, 0, 0);
        due("reason()", x.reason(), FRESH);
        x.breakAt(1, true);
        due("reason() after breakAt", x.reason(), FRESH);
        x.step();
        due("reason()", x.reason(), DONE);
        x.go();
        due("reason()", x.reason(), BREAK);
        x.breakAt(1, false);
        x.emit(11, 0, 0);
        x.peek(0);
        due("reason() after other calls", x.reason(), BREAK);
        x.go();
        due("reason()", x.reason(), TIRED);
        x.stepOver();
        due("reason()", x.reason(), DONE);
        x.reset();
        due("reason()", x.reason(), FRESH);
    }

    private static void position() {
        about("promise 14");
        StepDebugger x = with(SET, 2, -5, VIA, 2, 0);
        due("position()", x.position(), 0);
        x.step();
        due("position()", x.position(), 1);
        due("step()", x.step(), LOST);
        due("position() when lost", x.position(), -5);
        x.reset();
        due("position()", x.position(), 0);
    }

    private static void peek() {
        about("promise 15");
        StepDebugger x = with(SET, 0, 10, SET, 1, 11, SET, 2, 12, SET, 3, 13, STORE, 0, 0, STORE, 1, 1, STORE, 2, 2,
                STORE, 3, 3, CALL, 0, 10, END, 0, 0, CALL, 0, 11, CALL, 0, 12, END, 0, 0);
        due("go()", x.go(), ENDED);
        int[] due = {10, 11, 12, 13, 0, 0, 0, 0, 0, 0, 10, 11, 12, 13, 0, 0, 9, 11, 12, 0, 0, 0, 0, 0};
        for (int i = 0; i < due.length; i++) {
            due("peek(" + i + ")", x.peek(i), due[i]);
        }
        int[] outside = {-1, -8, -16, 24, 32, 100, MIN, MAX, MIN + 16};
        for (int i : outside) {
            due("peek(" + i + ")", x.peek(i), 0);
        }
        StepDebugger cells = with(SET, 0, 21, STORE, 0, 1, SET, 1, 7, SET, 2, 28, STORE, 2, 1, END, 0, 0);
        due("go()", cells.go(), ENDED);
        due("peek(8)", cells.peek(8), 21);
        due("peek(15)", cells.peek(15), 28);
        due("peek(7)", cells.peek(7), 0);
        due("peek(4)", cells.peek(4), 0);
        due("peek(16)", cells.peek(16), 0);
    }

    private static void depth() {
        about("promise 16");
        StepDebugger x = with(CALL, 0, 1, CALL, 0, 2, CALL, 0, 3, CALL, 0, 4, CALL, 0, 5, CALL, 0, 6, BACK, 0, 0);
        for (int i = 0; i < 6; i++) {
            due("depth()", x.depth(), i);
            x.step();
        }
        due("depth()", x.depth(), 6);
        due("step()", x.step(), DONE);
        dueTarget(x, 6, 5, 7, DONE);
        due("step()", x.step(), DONE);
        dueTarget(x, 5, 4, 8, DONE);
        // From position k, 2^(7-k) - 1 instructions pop one return; position 1 is come to twice,
        // and the last BACK of the second time finds nothing: 1 + 63 + 62.
        due("go() until nothing is left to pop", x.go(), FAULTED);
        dueTarget(x, 6, 0, 126, FAULTED);
        x.reset();
        due("depth()", x.depth(), 0);
    }

    private static void steps() {
        about("promise 17");
        StepDebugger x = with(SET, 0, 1, JUMP, 0, 0, END, 0, 0);
        due("steps()", x.steps(), 0);
        x.step();
        due("steps()", x.steps(), 1);
        x.goTo(0);
        due("steps()", x.steps(), 2);
        x.go();
        due("steps()", x.steps(), 152);
        x.go();
        due("steps()", x.steps(), 302);
        x.reset();
        due("steps()", x.steps(), 0);
        StepDebugger end = with(END, 0, 0);
        end.go();
        due("steps() counts END", end.steps(), 1);
        end.go();
        due("steps() stays when ended", end.steps(), 1);
    }

    private static void objectsAreApart() {
        about("two objects");
        StepDebugger x = with(SET, 0, 5, CALL, 0, 0);
        StepDebugger y = new StepDebugger();
        x.breakAt(1, true);
        x.go();
        due("length()", y.length(), 0);
        due("breakpoints()", y.breakpoints(), 0);
        dueTarget(y, 0, 0, 0, FRESH);
        dueAllZero(y);
    }
}

import java.util.Arrays;

/**
 * The sentences of the document that are about all calls together and name no boundary: that a stop carries nothing
 * further out, that every command answers the reason, which registers an instruction changes, and that no call changes
 * more than is said of it. Also the example of README.md, so that it stays true.
 */
public final class StepDebuggerSentences {
    private static final int SET = 0, ADD = 1, SUB = 2, LOAD = 3, STORE = 4, ZERO = 5, JUMP = 6, CALL = 7,
            BACK = 8, VIA = 9, END = 10;
    private static final int FRESH = 0, DONE = 1, BREAK = 2, TIRED = 3, LOST = 4, FAULTED = 5, ENDED = 6;
    private static final int MIN = Integer.MIN_VALUE, MAX = Integer.MAX_VALUE;
    private static final String[] COMMANDS = {"step()", "stepOver()", "stepOut()", "go()", "goTo(2)"};

    private static int wrong = 0;
    private static String sentence = "";

    public static void main(String[] args) {
        test("registers a and b, and no other", StepDebuggerSentences::everyPairOfRegisters);
        test("the operations that only go on change no number", StepDebuggerSentences::goingOnChangesNoNumber);
        test("stops, without carrying anything further out: DONE", StepDebuggerSentences::doneCarriesNothingOn);
        test("stops, without carrying anything further out: BREAK", StepDebuggerSentences::breakCarriesNothingOn);
        test("stops, without carrying anything further out: TIRED", StepDebuggerSentences::tiredCarriesNothingOn);
        test("stops, without carrying anything further out: over", StepDebuggerSentences::overCarriesNothingOn);
        test("it answers the reason", StepDebuggerSentences::commandsAnswerTheReason);
        test("9: a CALL that can't be carried out, as step()", StepDebuggerSentences::stepOverAtFullStack);
        test("commands leave program and breakpoints", StepDebuggerSentences::commandsLeaveProgram);
        test("a breakpoint changes nothing but itself", StepDebuggerSentences::breakAtChangesOneBit);
        test("an instruction that is appended changes no other", StepDebuggerSentences::emitChangesOnePosition);
        test("looking changes nothing", StepDebuggerSentences::lookingChangesNothing);
        test("the example of README.md", StepDebuggerSentences::exampleOfReadme);
        System.out.println(wrong == 0 ? "all sentences hold" : wrong + " answers are not as due");
        if (wrong != 0) {
            System.exit(1);
        }
    }

    // ---- what the tests are made of

    private static void test(String words, Runnable body) {
        sentence = words;
        try {
            body.run();
        } catch (RuntimeException thrown) {
            wrong++;
            System.out.println(sentence + ": a call threw " + thrown);
        }
    }

    private static void due(String call, int got, int want) {
        if (got != want) {
            wrong++;
            System.out.println(sentence + ": " + call + " answered " + got + ", due is " + want);
        }
    }

    private static void dueSame(String when, String got, String want) {
        if (!got.equals(want)) {
            wrong++;
            System.out.println(sentence + ": " + when + " the state is " + got + ", due is " + want);
        }
    }

    private static void dueTarget(StepDebugger x, int position, int depth, int steps, int reason) {
        due("position()", x.position(), position);
        due("depth()", x.depth(), depth);
        due("steps()", x.steps(), steps);
        due("reason()", x.reason(), reason);
    }

    /** A new object with the program given as op, a, b, op, a, b, .. */
    private static StepDebugger with(int... code) {
        StepDebugger x = new StepDebugger();
        for (int i = 0; i < code.length; i += 3) {
            due("emit", x.emit(code[i], code[i + 1], code[i + 2]), i / 3);
        }
        return x;
    }

    private static int command(StepDebugger x, int which) {
        switch (which) {
            case 0: return x.step();
            case 1: return x.stepOver();
            case 2: return x.stepOut();
            case 3: return x.go();
            default: return x.goTo(2);
        }
    }

    /** All that shows of program and breakpoints: 22 calls. */
    private static String program(StepDebugger x) {
        int[] seen = new int[20];
        for (int p = 0; p < seen.length; p++) {
            seen[p] = x.codeAt(p);
        }
        return x.length() + " " + Integer.toBinaryString(x.breakpoints()) + " " + Arrays.toString(seen);
    }

    /** All that shows of the numbers of the target: 18 calls. */
    private static String numbers(StepDebugger x) {
        int[] seen = new int[22];
        for (int i = 0; i < seen.length; i++) {
            seen[i] = i >= 4 && i < 8 ? 0 : x.peek(i);
        }
        return Arrays.toString(seen);
    }

    private static String target(StepDebugger x) {
        return x.reason() + " " + x.position() + " " + x.depth() + " " + x.steps() + " " + numbers(x);
    }

    /** One program, but for the instruction at 5: by it a go() is left by that reason. */
    private static StepDebugger loaded(int reason) {
        int[] last = {SET, SET, SET, JUMP, VIA, BACK, END};
        StepDebugger x = with(SET, 0, 6, SET, 1, -7, STORE, 1, 0, CALL, 2, 5, BACK, 0, 0,
                last[reason], 1, 5, SET, 3, 9, JUMP, 0, 5);
        x.breakAt(17, true);
        x.breakAt(6, reason == BREAK);
        return x;
    }

    private static StepDebugger stoppedBy(int reason) {
        StepDebugger x = loaded(reason);
        if (reason == DONE) {
            due("goTo(6)", x.goTo(6), DONE);
        } else if (reason != FRESH) {
            due("go()", x.go(), reason);
        }
        return x;
    }

    // ---- the instructions

    private static void everyPairOfRegisters() {
        for (int a = 0; a <= 3; a++) {
            for (int b = 0; b <= 3; b++) {
                dueOperation(ADD, a, b);
                dueOperation(SUB, a, b);
                dueOperation(LOAD, a, b);
                dueOperation(STORE, a, b);
            }
        }
    }

    private static void dueOperation(int op, int a, int b) {
        // Register r names cell r, and cell r holds 100 + 8 * r from before (the other cells 0).
        int[] registers = {8, 17, 26, 35};
        int[] cells = {100, 108, 116, 124, 0, 0, 0, 0};
        StepDebugger x = new StepDebugger();
        for (int r = 0; r <= 3; r++) {
            int helper = (r + 1) % 4;
            x.emit(SET, helper, cells[r]);
            x.emit(SET, r, registers[r]);
            x.emit(STORE, helper, r);
        }
        for (int r = 0; r <= 3; r++) {
            x.emit(SET, r, registers[r]);
        }
        x.emit(op, a, b);
        x.emit(END, 0, 0);
        if (op == ADD) registers[a] = registers[a] + registers[b];
        if (op == SUB) registers[a] = registers[a] - registers[b];
        if (op == LOAD) registers[a] = cells[b];
        if (op == STORE) cells[b] = registers[a];
        due("go()", x.go(), ENDED);
        for (int r = 0; r <= 3; r++) {
            due("register " + r + " after " + op + " " + a + " " + b, x.peek(r), registers[r]);
        }
        for (int c = 0; c < 8; c++) {
            due("cell " + c + " after " + op + " " + a + " " + b, x.peek(8 + c), cells[c]);
        }
    }

    private static void goingOnChangesNoNumber() {
        int[] ops = {ZERO, JUMP, CALL, BACK, VIA, END};
        for (int op : ops) {
            for (int a = 0; a <= 3; a++) {
                StepDebugger x = with(SET, 0, 4, SET, 1, 5, SET, 2, 6, SET, 3, 7, STORE, 0, 3, CALL, 0, 7, END, 0, 0,
                        op, a, 7);
                due("goTo(7)", x.goTo(7), DONE);
                due("position()", x.position(), 7);
                x.step();
                due("steps()", x.steps(), 7);
                int[] want = {4, 5, 6, 7, 0, 0, 0, 0, 0, 0, 0, 0, 0, 0, 0, 4};
                for (int i = 0; i < want.length; i++) {
                    due("peek(" + i + ") after " + op, x.peek(i), want[i]);
                }
            }
        }
    }

    // ---- the stops

    private static void doneCarriesNothingOn() {
        int[] position = {2, 1, 1, 0, 2};
        int[] depth = {1, 0, 0, 0, 1};
        int[] steps = {1, 3, 3, 0, 1};
        for (int which = 0; which < COMMANDS.length; which++) {
            boolean hasAim = which != 3;
            if (hasAim) {
                StepDebugger x = with(CALL, 0, 2, SET, 1, 2, SET, 0, 1, BACK, 0, 0);
                if (which == 2) {
                    due("step()", x.step(), DONE);
                }
                due(COMMANDS[which], command(x, which), DONE);
                dueTarget(x, position[which], depth[which], steps[which], DONE);
                due("peek(0)", x.peek(0), depth[which] == 1 ? 0 : 1);
                due("peek(1)", x.peek(1), 0);
            }
        }
    }

    private static void breakCarriesNothingOn() {
        for (int which = 1; which < COMMANDS.length; which++) {
            StepDebugger x = with(CALL, 0, 3, END, 0, 0, END, 0, 0, SET, 0, 1, SET, 1, 2, BACK, 0, 0);
            x.breakAt(4, true);
            due(COMMANDS[which], command(x, which), BREAK);
            dueTarget(x, 4, 1, 2, BREAK);
            due("peek(0)", x.peek(0), 1);
            due("peek(1)", x.peek(1), 0);
            due("step() on", x.step(), DONE);
            due("peek(1)", x.peek(1), 2);
        }
    }

    private static void tiredCarriesNothingOn() {
        for (int which = 1; which < COMMANDS.length; which++) {
            // CALL, SET and then 74 times ADD and JUMP are 150; the next would be an ADD.
            StepDebugger x = with(CALL, 0, 3, END, 0, 0, END, 0, 0, SET, 1, 1, ADD, 0, 1, JUMP, 0, 4);
            due(COMMANDS[which], command(x, which), TIRED);
            dueTarget(x, 4, 1, 150, TIRED);
            due("peek(0)", x.peek(0), 74);
            due("step() on", x.step(), DONE);
            due("peek(0)", x.peek(0), 75);
        }
    }

    private static void overCarriesNothingOn() {
        for (int which = 0; which < COMMANDS.length; which++) {
            StepDebugger end = with(END, 0, 0, SET, 0, 1);
            due(COMMANDS[which], command(end, which), ENDED);
            dueTarget(end, 0, 0, 1, ENDED);
            due("peek(0)", end.peek(0), 0);
            StepDebugger back = with(BACK, 0, 1, SET, 0, 1);
            due(COMMANDS[which], command(back, which), FAULTED);
            dueTarget(back, 0, 0, 0, FAULTED);
            due("peek(0)", back.peek(0), 0);
            StepDebugger lost = with(JUMP, 0, 20, SET, 0, 1);
            due(COMMANDS[which], command(lost, which), LOST);
            dueTarget(lost, 20, 0, 1, LOST);
            due("peek(0)", lost.peek(0), 0);
        }
    }

    private static StepDebugger onTheWayTo(int reason) {
        StepDebugger x;
        switch (reason) {
            case DONE: return with(CALL, 0, 2, END, 0, 0, BACK, 0, 0);
            case BREAK:
                x = with(CALL, 0, 3, END, 0, 0, END, 0, 0, SET, 0, 1, BACK, 0, 0);
                x.breakAt(3, true);
                return x;
            case TIRED: return with(CALL, 0, 1, JUMP, 0, 1);
            case LOST: return with(CALL, 0, -1);
            case FAULTED: return with(CALL, 0, 0);
            default: return with(CALL, 0, 1, END, 0, 0);
        }
    }

    private static void commandsAnswerTheReason() {
        int[] reasons = {DONE, BREAK, TIRED, LOST, FAULTED, ENDED};
        for (int reason : reasons) {
            for (int which = 0; which < COMMANDS.length; which++) {
                StepDebugger x = onTheWayTo(reason);
                // stepOut's aim needs a call to leave.
                if (reason == DONE && which == 2) {
                    due("step()", x.step(), DONE);
                }
                int want = reason;
                if (which == 3 && reason == DONE) {
                    want = ENDED;
                }
                if (which == 0 && reason != LOST) {
                    want = DONE;
                }
                due(COMMANDS[which] + " on the way to " + reason, command(x, which), want);
                due("reason() after " + COMMANDS[which], x.reason(), want);
            }
        }
    }

    private static void stepOverAtFullStack() {
        for (int which = 0; which < COMMANDS.length; which++) {
            StepDebugger x = with(CALL, 0, 0);
            StepDebugger twin = with(CALL, 0, 0);
            for (int i = 1; i <= 5; i++) {
                due("step() number " + i, x.step(), DONE);
                due("step() number " + i, twin.step(), DONE);
            }
            due(COMMANDS[which] + " on to a full stack", command(x, which), FAULTED);
            due(COMMANDS[which] + " on to a full stack", command(twin, which), FAULTED);
            due("stepOver() there", x.stepOver(), FAULTED);
            due("step() there", twin.step(), FAULTED);
            dueSame("after stepOver()", target(x), target(twin));
            dueTarget(x, 0, 6, 6, FAULTED);
        }
    }

    // ---- what calls leave as it is

    private static void commandsLeaveProgram() {
        for (int reason = FRESH; reason <= ENDED; reason++) {
            for (int which = 0; which < COMMANDS.length; which++) {
                String before = program(loaded(reason));
                StepDebugger x = stoppedBy(reason);
                dueSame("when stopped", program(x), before);
                for (int i = 0; i < 5; i++) {
                    command(x, which);
                    dueSame("after " + COMMANDS[which], program(x), before);
                }
            }
        }
    }

    private static void breakAtChangesOneBit() {
        for (int reason = FRESH; reason <= ENDED; reason++) {
            StepDebugger x = stoppedBy(reason);
            int bits = x.breakpoints();
            String before = target(x);
            for (int p = 0; p < 20; p++) {
                boolean on = p % 3 != 0;
                due("breakAt", x.breakAt(p, on) ? 1 : 0, 1);
                bits = on ? bits | 1 << p : bits & ~(1 << p);
                due("breakpoints()", x.breakpoints(), bits);
                due("length()", x.length(), 8);
            }
            dueSame("after breakAt", target(x), before);
        }
    }

    private static void emitChangesOnePosition() {
        StepDebugger x = new StepDebugger();
        int[] codes = new int[20];
        Arrays.fill(codes, -1);
        for (int i = 0; i < 20; i++) {
            int op = (7 * i + 3) % 11;
            int a = (3 * i + 1) % 4;
            due("emit", x.emit(op, a, i % 4), i);
            codes[i] = op + 16 * a;
            dueSame("after emit number " + (i + 1), program(x), (i + 1) + " 0 " + Arrays.toString(codes));
        }
    }

    private static void lookingChangesNothing() {
        int[] places = {MIN, -1, 0, 7, 8, 19, 20, MAX};
        int[] cells = {MIN, -1, 0, 3, 4, 7, 8, 15, 16, 17, 21, 22, MAX};
        for (int reason = FRESH; reason <= ENDED; reason++) {
            StepDebugger x = stoppedBy(reason);
            StepDebugger twin = stoppedBy(reason);
            for (int again = 0; again < 2; again++) {
                for (int p : places) {
                    x.codeAt(p);
                }
                for (int i : cells) {
                    x.peek(i);
                }
                x.length();
                x.breakpoints();
                x.reason();
                x.position();
                x.depth();
                x.steps();
            }
            // Each is compared with an object not looked at before: a look that changes something must not change both.
            dueSame("after looking", target(x), target(stoppedBy(reason)));
            dueSame("after looking", program(x), program(stoppedBy(reason)));
            due("stepOver() after looking", x.stepOver(), twin.stepOver());
            due("go() after looking", x.go(), twin.go());
            dueSame("gone on after looking", target(x), target(twin));
            dueSame("gone on after looking", program(x), program(twin));
        }
    }

    // ---- README.md

    private static void exampleOfReadme() {
        StepDebugger x = new StepDebugger();
        due("emit(0, 0, 5)", x.emit(0, 0, 5), 0);
        due("emit(7, 0, 3)", x.emit(7, 0, 3), 1);
        due("emit(10, 0, 0)", x.emit(10, 0, 0), 2);
        due("emit(1, 1, 0)", x.emit(1, 1, 0), 3);
        due("emit(8, 0, 0)", x.emit(8, 0, 0), 4);
        due("step()", x.step(), StepDebugger.DONE);
        due("position()", x.position(), 1);
        due("stepOver()", x.stepOver(), StepDebugger.DONE);
        due("position()", x.position(), 2);
        due("peek(1)", x.peek(1), 5);
        due("go()", x.go(), StepDebugger.ENDED);
        due("steps()", x.steps(), 5);
        x.reset();
        due("breakAt(4, true)", x.breakAt(4, true) ? 1 : 0, 1);
        due("go()", x.go(), StepDebugger.BREAK);
        due("position()", x.position(), 4);
        due("depth()", x.depth(), 1);
        due("peek(16)", x.peek(16), 2);
        due("stepOut()", x.stepOut(), StepDebugger.DONE);
        due("position()", x.position(), 2);
    }
}

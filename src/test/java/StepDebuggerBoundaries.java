import java.util.Arrays;
import java.util.function.ToIntFunction;

/**
 * One test for each sentence of the document that names a boundary case, called by the words of that sentence:
 * the last value that is taken, the first that is not, what a refused call answers, and that it changes nothing.
 * Every due answer was worked out by hand from the document.
 */
public final class StepDebuggerBoundaries {
    private static final int SET = 0, ADD = 1, SUB = 2, LOAD = 3, STORE = 4, ZERO = 5, JUMP = 6, CALL = 7,
            BACK = 8, VIA = 9, END = 10;
    private static final int FRESH = 0, DONE = 1, BREAK = 2, TIRED = 3, LOST = 4, FAULTED = 5, ENDED = 6;
    private static final int MIN = Integer.MIN_VALUE, MAX = Integer.MAX_VALUE;
    private static final int COMMANDS = 5;

    private static int tests = 0;
    private static int wrong = 0;
    private static String sentence = "";

    public static void main(String[] args) {
        use();
        room();
        operations();
        reasons();
        orderOfReasons();
        programCalls();
        breakpointCalls();
        commands();
        looks();
        System.out.println(wrong == 0 ? "all " + tests + " boundary tests hold" : wrong + " answers are not as due");
        if (wrong != 0) {
            System.exit(1);
        }
    }

    private static void use() {
        test("used for at most 512 calls", StepDebuggerBoundaries::lastCallOfAnObject);
    }

    private static void room() {
        test("a program of at most 20 instructions at positions 0, 1, ..", StepDebuggerBoundaries::roomOfProgram);
        test("four registers 0 .. 3", StepDebuggerBoundaries::roomOfRegisters);
        test("eight memory cells 0 .. 7", StepDebuggerBoundaries::roomOfMemory);
        test("ints, all 0 at first", StepDebuggerBoundaries::firstAndExtremeValues);
        test("a position (0 at first)", StepDebuggerBoundaries::firstPosition);
        test("a stack of return positions with room for six", StepDebuggerBoundaries::roomOfStack);
        test("a stack (empty at first)", StepDebuggerBoundaries::emptyStack);
    }

    private static void operations() {
        test("SET: b (any int)", StepDebuggerBoundaries::setAnyInt);
        test("ADD, SUB: sums and differences wrap", StepDebuggerBoundaries::sumsAndDifferencesWrap);
        test("ADD, SUB of a register and itself", StepDebuggerBoundaries::registerWithItself);
        test("LOAD: register b modulo 8 (its low three bits)", StepDebuggerBoundaries::loadModulo);
        test("STORE: register b modulo 8 (its low three bits)", StepDebuggerBoundaries::storeModulo);
        test("LOAD, STORE of a register by itself", StepDebuggerBoundaries::cellByItself);
        test("ZERO: when register a is 0", StepDebuggerBoundaries::zeroOnlyWhenZero);
        test("ZERO: goes on at position b", StepDebuggerBoundaries::zeroGoesAnywhere);
        test("JUMP: goes on at position b (a is not used)", StepDebuggerBoundaries::jumpAnywhere);
        test("CALL: pushes the next position", StepDebuggerBoundaries::callPushesNext);
        test("CALL: goes on at position b (a is not used)", StepDebuggerBoundaries::callAnywhere);
        test("BACK: pops a position (a and b are not used)", StepDebuggerBoundaries::backPopsLast);
        test("VIA: the position that register a holds (b is not used)", StepDebuggerBoundaries::viaAnywhere);
        test("END: has ended (a and b are not used)", StepDebuggerBoundaries::endIgnoresNumbers);
        test("unless said otherwise the next position", StepDebuggerBoundaries::nextAfterTheLast);
        test("carried out counts one step", StepDebuggerBoundaries::everyOperationCountsOne);
        test("END: the position stays", StepDebuggerBoundaries::endStays);
    }

    private static void reasons() {
        test("looks also before the first one", StepDebuggerBoundaries::looksBeforeTheFirst);
        test("LOST: not 0 .. length() - 1", StepDebuggerBoundaries::lostAtTheEdges);
        test("FAULTED: CALL and six return positions", StepDebuggerBoundaries::callAtFiveAndSix);
        test("FAULTED: BACK and none is", StepDebuggerBoundaries::backAtOneAndNone);
        test("FAULTED: no other instruction", StepDebuggerBoundaries::othersNeverFault);
        test("DONE: at least one instruction", StepDebuggerBoundaries::doneNeedsOne);
        test("BREAK: at least one instruction", StepDebuggerBoundaries::breakNeedsOne);
        test("TIRED: 150 instructions", StepDebuggerBoundaries::tiredAtTheEdge);
        test("TIRED: the command has carried out", StepDebuggerBoundaries::everyCommandCountsAnew);
        test("once ENDED do nothing but answer", () -> staysOver(ENDED));
        test("once LOST do nothing but answer", () -> staysOver(LOST));
        test("once FAULTED do nothing but answer", () -> staysOver(FAULTED));
        test("until the target is reset", StepDebuggerBoundaries::resetWakes);
    }

    private static void orderOfReasons() {
        test("first that applies: ENDED before DONE, BREAK", StepDebuggerBoundaries::endedFirst);
        test("first that applies: LOST before DONE, BREAK", StepDebuggerBoundaries::lostBeforeDoneAndBreak);
        test("first that applies: FAULTED before DONE, BREAK", StepDebuggerBoundaries::faultedBeforeDoneAndBreak);
        test("first that applies: DONE before BREAK", StepDebuggerBoundaries::doneBeforeBreak);
        test("first that applies: all before TIRED", StepDebuggerBoundaries::allBeforeTired);
        test("first that applies: FAULTED at CALL before TIRED", StepDebuggerBoundaries::fullStackBeforeTired);
    }

    private static void programCalls() {
        test("1: an empty program, no breakpoints, FRESH", StepDebuggerBoundaries::newObject);
        test("2: answers its position", StepDebuggerBoundaries::emitAnswersPositions);
        test("2: refused with -1 when 20 are there", StepDebuggerBoundaries::emitWhenFull);
        test("2: then with -2 when op is not 0 .. 10", StepDebuggerBoundaries::emitWrongOperation);
        test("2: then with -3 when a is not 0 .. 3", StepDebuggerBoundaries::emitWrongFirst);
        test("2: or op is 1 .. 4 and b is not 0 .. 3", StepDebuggerBoundaries::emitWrongSecond);
        test("2: b of ZERO, JUMP and CALL may be any int", StepDebuggerBoundaries::emitAnySecond);
        test("2: a refused call changes nothing", StepDebuggerBoundaries::refusedEmitChangesNothing);
        test("2: the target is not reset", StepDebuggerBoundaries::emitLeavesTarget);
        test("3: the number of instructions", StepDebuggerBoundaries::lengthFromNoneToFull);
        test("4: op + 16 * a (a as it was given)", StepDebuggerBoundaries::codeOfEveryOperation);
        test("4: -1 when p is not 0 .. length() - 1", StepDebuggerBoundaries::codeOutside);
        test("4: breakpoints never show in it", StepDebuggerBoundaries::codeUnderBreakpoints);
        test("5: the target as at first, no steps, FRESH", StepDebuggerBoundaries::resetFromEveryReason);
        test("5: program and breakpoints stay", StepDebuggerBoundaries::resetKeepsProgram);
    }

    private static void breakpointCalls() {
        test("6: puts a breakpoint, or takes it away", StepDebuggerBoundaries::breakTwice);
        test("6: false when p is not 0 .. 19", StepDebuggerBoundaries::breakAtTheEdges);
        test("6: false, changing nothing", StepDebuggerBoundaries::refusedBreakChangesNothing);
        test("6: p may lie beyond the program", StepDebuggerBoundaries::breakBeyondProgram);
        test("7: bit p for position p", StepDebuggerBoundaries::bitsOfBreakpoints);
    }

    private static void commands() {
        test("8: as soon as one was carried out", StepDebuggerBoundaries::stepIsOne);
        test("9: a CALL (and can be carried out)", StepDebuggerBoundaries::stepOverAtFiveAndSix);
        test("9: as many return positions as before", StepDebuggerBoundaries::stepOverDeeperIsNotEnough);
        test("9: the position is the one after the CALL", StepDebuggerBoundaries::stepOverLastCall);
        test("9: otherwise it does what step() does", StepDebuggerBoundaries::stepOverOthers);
        test("10: fewer return positions than before", StepDebuggerBoundaries::stepOutFromEveryDepth);
        test("10: when none are there before, never reached", StepDebuggerBoundaries::stepOutFromNone);
        test("11: its aim is never reached", StepDebuggerBoundaries::goHasNoAim);
        test("12: the position is p (any int)", StepDebuggerBoundaries::goToAnyInt);
    }

    private static void looks() {
        test("13: the last command that ran the target", StepDebuggerBoundaries::reasonOnlyOfCommands);
        test("14: the position of the target", StepDebuggerBoundaries::positionAnyInt);
        test("15: register i for i from 0 to 3", StepDebuggerBoundaries::peekRegisters);
        test("15: memory cell i - 8 for i from 8 to 15", StepDebuggerBoundaries::peekCells);
        test("15: i from 16 to 15 + the number on the stack", StepDebuggerBoundaries::peekReturns);
        test("15: 0 for any other i", StepDebuggerBoundaries::peekElsewhere);
        test("16: the number of return positions", StepDebuggerBoundaries::depthFromNoneToFull);
        test("17: instructions carried out since the reset", StepDebuggerBoundaries::stepsCountOnlyCarriedOut);
    }

    // ---- what the tests are made of

    private static void test(String words, Runnable body) {
        sentence = words;
        tests++;
        try {
            body.run();
        } catch (RuntimeException thrown) {
            wrong++;
            System.out.println(sentence + ": a call threw " + thrown);
        }
    }

    private static void due(String call, int got, int want) {
        if (got != want) {
            wrong++;
            System.out.println(sentence + ": " + call + " answered " + got + ", due is " + want);
        }
    }

    private static void due(String call, boolean got, boolean want) {
        due(call, got ? 1 : 0, want ? 1 : 0);
    }

    private static void dueTarget(StepDebugger x, int position, int depth, int steps, int reason) {
        due("position()", x.position(), position);
        due("depth()", x.depth(), depth);
        due("steps()", x.steps(), steps);
        due("reason()", x.reason(), reason);
    }

    private static void dueSame(String when, String got, String want) {
        if (!got.equals(want)) {
            wrong++;
            System.out.println(sentence + ": " + when + " the state is " + got + ", due is " + want);
        }
    }

    /** A new object with the program given as op, a, b, op, a, b, .. */
    private static StepDebugger with(int... code) {
        StepDebugger x = new StepDebugger();
        append(x, code);
        return x;
    }

    private static void append(StepDebugger x, int... code) {
        for (int i = 0; i < code.length; i += 3) {
            x.emit(code[i], code[i + 1], code[i + 2]);
        }
    }

    private static int command(StepDebugger x, int which, int p) {
        switch (which) {
            case 0: return x.step();
            case 1: return x.stepOver();
            case 2: return x.stepOut();
            case 3: return x.go();
            default: return x.goTo(p);
        }
    }

    /** All that shows of the target: 22 calls. */
    private static String target(StepDebugger x) {
        int[] seen = new int[26];
        int n = 0;
        seen[n++] = x.reason();
        seen[n++] = x.position();
        seen[n++] = x.depth();
        seen[n++] = x.steps();
        for (int i = 0; i < 22; i++) {
            seen[n++] = i >= 4 && i < 8 ? 0 : x.peek(i);
        }
        return Arrays.toString(seen);
    }

    /** All that shows of program and breakpoints: 22 calls. */
    private static String program(StepDebugger x) {
        int[] seen = new int[22];
        seen[20] = x.length();
        seen[21] = x.breakpoints();
        for (int p = 0; p < 20; p++) {
            seen[p] = x.codeAt(p);
        }
        return Arrays.toString(seen);
    }

    private static String whole(StepDebugger x) {
        return program(x) + target(x);
    }

    /** An object stopped in the middle of its work, with nothing left as in a new one. */
    private static StepDebugger busy() {
        StepDebugger x = with(SET, 0, -5, SET, 1, 9, SET, 2, 2, SET, 3, 7, STORE, 0, 1, CALL, 0, 7, END, 0, 0,
                CALL, 2, 9, END, 0, 0, STORE, 1, 3, ADD, 1, 1, BACK, 0, 0);
        x.breakAt(10, true);
        x.breakAt(18, true);
        x.go();
        return x;
    }

    private static StepDebugger busyAndFull() {
        StepDebugger x = busy();
        append(x, SET, 1, 1, SET, 1, 2, SET, 1, 3, SET, 1, 4, SET, 1, 5, SET, 1, 6, SET, 1, 7, SET, 1, 8);
        return x;
    }

    /** The object that had the refused call goes on as its twin, which had not. */
    private static void dueRefused(String call, boolean full, ToIntFunction<StepDebugger> refused, int answer) {
        StepDebugger x = full ? busyAndFull() : busy();
        StepDebugger twin = full ? busyAndFull() : busy();
        due(call, refused.applyAsInt(x), answer);
        dueSame("after " + call, whole(x), whole(twin));
        due("go() after " + call, x.go(), twin.go());
        dueSame("on from " + call, target(x), target(twin));
        due("emit after " + call, x.emit(SET, 0, 3), twin.emit(SET, 0, 3));
        x.reset();
        twin.reset();
        for (int i = 0; i < 14; i++) {
            due("step() after " + call, x.step(), twin.step());
        }
        dueSame("again after " + call, whole(x), whole(twin));
    }

    private static StepDebugger stoppedBy(int reason) {
        StepDebugger x;
        switch (reason) {
            case FRESH:
                return with(SET, 0, 1);
            case DONE:
                x = with(SET, 0, 8, END, 0, 0);
                x.step();
                return x;
            case BREAK:
                x = with(SET, 0, 8, SET, 1, 8, END, 0, 0);
                x.breakAt(1, true);
                x.go();
                return x;
            case TIRED:
                x = with(CALL, 0, 1, SET, 0, 8, STORE, 0, 0, JUMP, 0, 1);
                x.go();
                return x;
            case LOST:
                x = with(SET, 0, 8, STORE, 0, 0, CALL, 0, 4);
                x.go();
                return x;
            case FAULTED:
                x = with(SET, 0, 8, STORE, 0, 0, CALL, 0, 2);
                x.go();
                return x;
            default:
                x = with(SET, 0, 8, STORE, 0, 0, CALL, 0, 3, END, 0, 0);
                x.go();
                return x;
        }
    }

    /** Comes to the position after its last one as instruction number extra + 2 + 3 * rounds + 1 is carried out. */
    private static StepDebugger countdown(int extra, int rounds) {
        StepDebugger x = new StepDebugger();
        appendCountdown(x, extra, rounds);
        return x;
    }

    private static void appendCountdown(StepDebugger x, int extra, int rounds) {
        for (int i = 0; i < extra; i++) {
            append(x, SET, 3, i);
        }
        append(x, SET, 0, rounds, SET, 1, 1);
        int loop = x.length();
        append(x, ZERO, 0, loop + 3, SUB, 0, 1, JUMP, 0, loop);
    }

    // ---- use

    private static void lastCallOfAnObject() {
        StepDebugger x = with(JUMP, 0, 0);
        for (int i = 2; i <= 511; i++) {
            due("call number " + i, x.go(), TIRED);
        }
        due("steps() as call number 512", x.steps(), 510 * 150);
    }

    // ---- room

    private static void roomOfProgram() {
        StepDebugger x = new StepDebugger();
        for (int i = 0; i < 20; i++) {
            due("emit number " + (i + 1), x.emit(SET, 0, i + 1), i);
        }
        due("emit number 21", x.emit(SET, 0, 21), -1);
        due("goTo(19)", x.goTo(19), DONE);
        dueTarget(x, 19, 0, 19, DONE);
        due("step() at 19", x.step(), LOST);
        dueTarget(x, 20, 0, 20, LOST);
        due("peek(0)", x.peek(0), 20);
    }

    private static void roomOfRegisters() {
        for (int r = 0; r <= 3; r++) {
            StepDebugger x = with(SET, r, 5, END, 0, 0);
            due("go()", x.go(), ENDED);
            for (int i = 0; i <= 3; i++) {
                due("peek(" + i + ")", x.peek(i), i == r ? 5 : 0);
            }
        }
        StepDebugger x = new StepDebugger();
        due("emit of register 4", x.emit(SET, 4, 5), -3);
        due("emit of register -1", x.emit(SET, -1, 5), -3);
    }

    private static void roomOfMemory() {
        StepDebugger x = with(SET, 1, 100, SET, 2, 1, STORE, 1, 0, ADD, 1, 2, ADD, 0, 2, JUMP, 0, 2);
        due("goTo(2)", x.goTo(2), DONE);
        for (int cell = 0; cell < 8; cell++) {
            due("goTo(2)", x.goTo(2), DONE);
            for (int i = 0; i < 8; i++) {
                due("peek(" + (8 + i) + ")", x.peek(8 + i), i <= cell ? 100 + i : 0);
            }
        }
        due("goTo(2) for cell number 8", x.goTo(2), DONE);
        due("peek(8)", x.peek(8), 108);
        due("peek(9)", x.peek(9), 101);
        due("peek(16)", x.peek(16), 0);
    }

    private static void firstAndExtremeValues() {
        StepDebugger x = with(ZERO, 3, 2, END, 0, 0, SET, 0, 4, LOAD, 0, 1, SET, 0, MIN, STORE, 0, 1, SET, 1, 7,
                SET, 0, MAX, STORE, 0, 1, LOAD, 2, 1, LOAD, 3, 3, END, 0, 0);
        due("goTo(4)", x.goTo(4), DONE);
        due("peek(0) after the LOAD of a cell never stored", x.peek(0), 0);
        due("go()", x.go(), ENDED);
        due("peek(8)", x.peek(8), MIN);
        due("peek(15)", x.peek(15), MAX);
        due("peek(2)", x.peek(2), MAX);
        due("peek(3)", x.peek(3), MIN);
    }

    private static void firstPosition() {
        StepDebugger x = new StepDebugger();
        due("position() without a program", x.position(), 0);
        append(x, SET, 0, 1, SET, 1, 1);
        due("position() with a program", x.position(), 0);
        due("step()", x.step(), DONE);
        due("peek(0)", x.peek(0), 1);
        due("peek(1)", x.peek(1), 0);
    }

    /** Six CALLs, from 0, 3, 6, 9, 12 and 15, and at 18 what is given. */
    private static StepDebugger sixCalls(int op) {
        StepDebugger x = new StepDebugger();
        for (int p = 0; p < 18; p += 3) {
            append(x, CALL, 0, p + 3, SET, 0, p, BACK, 0, 0);
        }
        append(x, op, 0, 0);
        return x;
    }

    private static void roomOfStack() {
        StepDebugger x = sixCalls(SET);
        due("goTo(18)", x.goTo(18), DONE);
        due("depth()", x.depth(), 6);
        for (int i = 0; i < 6; i++) {
            due("peek(" + (16 + i) + ")", x.peek(16 + i), 3 * i + 1);
        }
        StepDebugger seventh = sixCalls(CALL);
        due("go() to a seventh CALL", seventh.go(), FAULTED);
        dueTarget(seventh, 18, 6, 6, FAULTED);
        due("peek(21)", seventh.peek(21), 16);
        due("peek(22)", seventh.peek(22), 0);
    }

    private static void emptyStack() {
        StepDebugger x = with(BACK, 0, 0);
        due("depth()", x.depth(), 0);
        due("step()", x.step(), FAULTED);
        dueTarget(x, 0, 0, 0, FAULTED);
    }

    // ---- operations

    private static void setAnyInt() {
        int[] values = {MIN, MIN + 1, -1, 0, 1, MAX - 1, MAX};
        for (int value : values) {
            StepDebugger x = with(SET, 3, 77, SET, 3, value, END, 0, 0);
            due("go()", x.go(), ENDED);
            due("peek(3) after SET to " + value, x.peek(3), value);
        }
    }

    private static void sumsAndDifferencesWrap() {
        int[][] table = {
            {MAX, 1, MIN, MAX - 1}, {MAX, 0, MAX, MAX}, {MAX - 1, 1, MAX, MAX - 2}, {MIN, -1, MAX, MIN + 1},
            {MIN, 1, MIN + 1, MAX}, {MIN + 1, 1, MIN + 2, MIN}, {MAX, -1, MAX - 1, MIN}, {MIN, MIN, 0, 0},
            {MAX, MAX, -2, 0}, {0, MIN, MIN, MIN}, {0, MAX, MAX, MIN + 1}, {-1, MAX, MAX - 1, MIN},
            {-1, MIN, MAX, MAX}, {-2, MAX, MAX - 2, MAX}, {0, 0, 0, 0}};
        for (int[] row : table) {
            StepDebugger x = with(SET, 0, row[0], SET, 1, row[1], SET, 2, row[0], ADD, 0, 1, SUB, 2, 1, END, 0, 0);
            due("go()", x.go(), ENDED);
            due(row[0] + " + " + row[1], x.peek(0), row[2]);
            due(row[0] + " - " + row[1], x.peek(2), row[3]);
            due("register b", x.peek(1), row[1]);
        }
    }

    private static void registerWithItself() {
        int[][] table = {{MAX, -2}, {MIN, 0}, {MIN / 2, MIN}, {MAX / 2 + 1, MIN}, {-3, -6}, {0, 0}};
        for (int[] row : table) {
            StepDebugger x = with(SET, 3, row[0], ADD, 3, 3, SET, 2, row[0], SUB, 2, 2, END, 0, 0);
            due("go()", x.go(), ENDED);
            due(row[0] + " + itself", x.peek(3), row[1]);
            due(row[0] + " - itself", x.peek(2), 0);
        }
    }

    /** A number, and the low three bits of it. */
    private static final int[][] MODULO = {{0, 0}, {1, 1}, {7, 7}, {8, 0}, {9, 1}, {15, 7}, {16, 0}, {-1, 7}, {-2, 6},
            {-7, 1}, {-8, 0}, {-9, 7}, {MIN, 0}, {MIN + 1, 1}, {MAX, 7}, {MAX - 1, 6}};

    private static void loadModulo() {
        for (int[] row : MODULO) {
            // Cell 0 holds 8, every other cell its own number.
            StepDebugger x = with(SET, 2, 8, SET, 3, 1, STORE, 2, 2, SUB, 2, 3, ZERO, 2, 6, JUMP, 0, 2,
                    SET, 1, row[0], LOAD, 0, 1, END, 0, 0);
            due("go()", x.go(), ENDED);
            due("LOAD by " + row[0], x.peek(0), row[1] == 0 ? 8 : row[1]);
            due("register b after LOAD", x.peek(1), row[0]);
        }
    }

    private static void storeModulo() {
        for (int[] row : MODULO) {
            StepDebugger x = with(SET, 0, 77, SET, 1, row[0], STORE, 0, 1, END, 0, 0);
            due("go()", x.go(), ENDED);
            for (int cell = 0; cell < 8; cell++) {
                due("cell " + cell + " after STORE by " + row[0], x.peek(8 + cell), cell == row[1] ? 77 : 0);
            }
            due("register a after STORE", x.peek(0), 77);
            due("register b after STORE", x.peek(1), row[0]);
        }
    }

    private static void cellByItself() {
        // Cell 5 holds 3; the LOAD changes the register that named the cell, and no cell.
        StepDebugger load = with(SET, 1, 3, SET, 2, 5, STORE, 1, 2, LOAD, 2, 2, END, 0, 0);
        due("go()", load.go(), ENDED);
        due("register 2 after LOAD by itself", load.peek(2), 3);
        StepDebugger store = with(SET, 2, -3, STORE, 2, 2, END, 0, 0);
        due("go()", store.go(), ENDED);
        due("register 2 after STORE by itself", store.peek(2), -3);
        for (int cell = 0; cell < 8; cell++) {
            due("cell " + cell + " after LOAD", load.peek(8 + cell), cell == 5 ? 3 : 0);
            due("cell " + cell + " after STORE", store.peek(8 + cell), cell == 5 ? -3 : 0);
        }
    }

    private static void zeroOnlyWhenZero() {
        int[] others = {1, -1, 8, 256, 65536, MIN, MAX};
        for (int a = 0; a <= 3; a++) {
            StepDebugger taken = with(SET, a, 0, ZERO, a, 3, END, 0, 0, SET, 0, 1, END, 0, 0);
            due("goTo(3)", taken.goTo(3), DONE);
            for (int value : others) {
                StepDebugger x = with(SET, a, value, ZERO, a, 3, END, 0, 0, END, 0, 0);
                due("go()", x.go(), ENDED);
                due("position() after ZERO of " + value, x.position(), 2);
            }
        }
        StepDebugger wrapped = with(SET, 0, MIN, ADD, 0, 0, ZERO, 0, 4, END, 0, 0, END, 0, 0);
        due("go()", wrapped.go(), ENDED);
        due("position() after ZERO of a wrapped 0", wrapped.position(), 4);
    }

    private static final int[] OUTSIDE_TWO = {2, 3, 19, 20, 21, 32, -1, -20, MIN, MIN + 1, MAX};

    private static void zeroGoesAnywhere() {
        for (int b : OUTSIDE_TWO) {
            StepDebugger x = with(ZERO, 3, b, END, 0, 0);
            due("step() by ZERO to " + b, x.step(), LOST);
            dueTarget(x, b, 0, 1, LOST);
            StepDebugger not = with(SET, 3, 1, ZERO, 3, b, END, 0, 0);
            due("go() past ZERO to " + b, not.go(), ENDED);
            dueTarget(not, 2, 0, 3, ENDED);
        }
        StepDebugger self = with(ZERO, 0, 0, END, 0, 0);
        due("step() by ZERO to itself", self.step(), DONE);
        dueTarget(self, 0, 0, 1, DONE);
    }

    private static void jumpAnywhere() {
        for (int a = 0; a <= 3; a++) {
            StepDebugger x = with(SET, a, 1, JUMP, a, 3, END, 0, 0, JUMP, a, 0);
            due("goTo(3) by JUMP with a " + a, x.goTo(3), DONE);
            dueTarget(x, 3, 0, 2, DONE);
            due("step() to position 0", x.step(), DONE);
            dueTarget(x, 0, 0, 3, DONE);
            due("peek(a)", x.peek(a), 1);
        }
        for (int b : OUTSIDE_TWO) {
            StepDebugger x = with(JUMP, 0, b, END, 0, 0);
            due("step() by JUMP to " + b, x.step(), LOST);
            dueTarget(x, b, 0, 1, LOST);
        }
    }

    private static void callPushesNext() {
        StepDebugger first = with(CALL, 0, 0);
        due("step()", first.step(), DONE);
        due("pushed by the CALL at 0", first.peek(16), 1);
        StepDebugger last = with(JUMP, 0, 19, BACK, 0, 0);
        while (last.length() < 19) {
            append(last, END, 0, 0);
        }
        due("emit at 19", last.emit(CALL, 0, 1), 19);
        due("step()", last.step(), DONE);
        due("step()", last.step(), DONE);
        due("pushed by the CALL at 19", last.peek(16), 20);
        due("step() back to 20", last.step(), LOST);
        dueTarget(last, 20, 0, 3, LOST);
    }

    private static void callAnywhere() {
        for (int b : OUTSIDE_TWO) {
            StepDebugger x = with(CALL, 3, b, END, 0, 0);
            due("step() by CALL to " + b, x.step(), LOST);
            dueTarget(x, b, 1, 1, LOST);
            due("peek(16)", x.peek(16), 1);
        }
        for (int a = 0; a <= 3; a++) {
            StepDebugger x = with(SET, a, 7, CALL, a, 3, END, 0, 0, SET, a, 8);
            due("goTo(3) by CALL with a " + a, x.goTo(3), DONE);
            dueTarget(x, 3, 1, 2, DONE);
            due("peek(a)", x.peek(a), 7);
        }
    }

    private static void backPopsLast() {
        int[][] numbers = {{0, 0}, {3, 3}, {1, MIN}, {2, MAX}, {0, -1}};
        for (int[] n : numbers) {
            StepDebugger x = with(CALL, 0, 2, END, 0, 0, CALL, 0, 4, BACK, n[0], n[1], BACK, n[0], n[1]);
            due("goTo(4)", x.goTo(4), DONE);
            due("step() by BACK", x.step(), DONE);
            dueTarget(x, 3, 1, 3, DONE);
            due("peek(16)", x.peek(16), 1);
            due("step() by BACK", x.step(), DONE);
            dueTarget(x, 1, 0, 4, DONE);
        }
    }

    private static void viaAnywhere() {
        for (int p : OUTSIDE_TWO) {
            StepDebugger x = with(SET, 3, p, VIA, 3, 0);
            due("goTo(1)", x.goTo(1), DONE);
            due("step() by VIA to " + p, x.step(), LOST);
            dueTarget(x, p, 0, 2, LOST);
        }
        int[] unused = {0, 3, -1, MIN, MAX};
        for (int b : unused) {
            for (int a = 0; a <= 3; a++) {
                StepDebugger x = with(SET, a, 3, VIA, a, b, END, 0, 0, VIA, (a + 1) % 4, b);
                due("goTo(3) by VIA", x.goTo(3), DONE);
                due("step() by VIA to 0", x.step(), DONE);
                dueTarget(x, 0, 0, 3, DONE);
            }
        }
    }

    private static void endIgnoresNumbers() {
        int[][] numbers = {{0, 0}, {3, 3}, {1, MIN}, {2, MAX}, {0, -1}};
        for (int[] n : numbers) {
            StepDebugger x = with(SET, n[0], 6, END, n[0], n[1]);
            due("go()", x.go(), ENDED);
            dueTarget(x, 1, 0, 2, ENDED);
            due("peek(a)", x.peek(n[0]), 6);
        }
    }

    private static void nextAfterTheLast() {
        for (int op = SET; op <= STORE; op++) {
            StepDebugger x = with(op, 0, 0);
            due("step() of a last " + op, x.step(), LOST);
            dueTarget(x, 1, 0, 1, LOST);
        }
        StepDebugger zero = with(SET, 0, 1, ZERO, 0, 0);
        due("go() past a last ZERO", zero.go(), LOST);
        dueTarget(zero, 2, 0, 2, LOST);
    }

    private static void everyOperationCountsOne() {
        for (int op = SET; op <= END; op++) {
            // A CALL first, so that there is something to pop; the VIA goes by a register that is 0.
            StepDebugger x = with(CALL, 0, 2, END, 0, 0, op, 0, 2, SET, 0, 0);
            due("step()", x.step(), DONE);
            due("step() of " + op, x.step(), op == END ? ENDED : DONE);
            due("steps() after " + op, x.steps(), 2);
        }
    }

    private static void endStays() {
        StepDebugger first = with(END, 0, 0, SET, 0, 1);
        due("go()", first.go(), ENDED);
        dueTarget(first, 0, 0, 1, ENDED);
        StepDebugger last = new StepDebugger();
        for (int i = 0; i < 19; i++) {
            append(last, SET, 0, i);
        }
        append(last, END, 0, 0);
        due("go()", last.go(), ENDED);
        dueTarget(last, 19, 0, 20, ENDED);
    }

    // ---- reasons

    private static void looksBeforeTheFirst() {
        for (int which = 0; which < COMMANDS; which++) {
            StepDebugger empty = new StepDebugger();
            due("command " + which + " without a program", command(empty, which, 0), LOST);
            dueTarget(empty, 0, 0, 0, LOST);
            StepDebugger back = with(BACK, 0, 0, SET, 0, 1);
            due("command " + which + " at BACK", command(back, which, 0), FAULTED);
            dueTarget(back, 0, 0, 0, FAULTED);
        }
    }

    private static void lostAtTheEdges() {
        int[] lengths = {1, 2, 19, 20};
        for (int length : lengths) {
            int[][] rows = {{-1, LOST}, {0, DONE}, {length - 1, DONE}, {length, LOST}, {20, LOST}};
            for (int[] row : rows) {
                StepDebugger x = with(JUMP, 0, row[0]);
                while (x.length() < length) {
                    append(x, SET, 0, 1);
                }
                due("step() to " + row[0] + " of " + length, x.step(), row[1]);
                dueTarget(x, row[0], 0, 1, row[1]);
            }
        }
    }

    private static void callAtFiveAndSix() {
        for (int which = 0; which < COMMANDS; which++) {
            StepDebugger x = sixCalls(CALL);
            due("goTo(15)", x.goTo(15), DONE);
            dueTarget(x, 15, 5, 5, DONE);
            due("command " + which + " on to the seventh CALL", command(x, which, 0), FAULTED);
            dueTarget(x, 18, 6, 6, FAULTED);
        }
        StepDebugger room = sixCalls(SET);
        room.goTo(15);
        due("step() by the sixth CALL", room.step(), DONE);
        dueTarget(room, 18, 6, 6, DONE);
    }

    private static void backAtOneAndNone() {
        for (int which = 0; which < COMMANDS; which++) {
            StepDebugger x = with(CALL, 0, 2, BACK, 0, 0, BACK, 0, 0);
            due("step()", x.step(), DONE);
            dueTarget(x, 2, 1, 1, DONE);
            due("command " + which + " by BACK on to BACK", command(x, which, 0), FAULTED);
            dueTarget(x, 1, 0, 2, FAULTED);
        }
        StepDebugger one = with(CALL, 0, 2, SET, 0, 0, BACK, 0, 0);
        one.step();
        due("step() by BACK with one", one.step(), DONE);
        dueTarget(one, 1, 0, 2, DONE);
    }

    private static void othersNeverFault() {
        for (int op = SET; op <= END; op++) {
            if (op != BACK) {
                StepDebugger none = with(op, 0, 0, SET, 0, 1);
                due("step() of " + op + " with none", none.step(), op == END ? ENDED : DONE);
            }
            if (op != CALL) {
                StepDebugger six = sixCalls(op);
                append(six, SET, 0, 1);
                due("goTo(18) to " + op, six.goTo(18), DONE);
                // ZERO, JUMP and VIA go to the CALL at 0, which can't be carried out any more.
                int faultsAfter = op == ZERO || op == JUMP || op == VIA ? FAULTED : DONE;
                due("step() of " + op + " with six", six.step(), op == END ? ENDED : faultsAfter);
                due("steps() after " + op, six.steps(), 7);
            }
        }
    }

    private static void doneNeedsOne() {
        StepDebugger x = with(JUMP, 0, 1, JUMP, 0, 0);
        due("goTo(0) at 0", x.goTo(0), DONE);
        dueTarget(x, 0, 0, 2, DONE);
        StepDebugger self = with(JUMP, 0, 0);
        due("goTo(0) by a JUMP to itself", self.goTo(0), DONE);
        dueTarget(self, 0, 0, 1, DONE);
        StepDebugger leaves = with(SET, 0, 1, END, 0, 0);
        due("goTo(0) that does not come back", leaves.goTo(0), ENDED);
        dueTarget(leaves, 1, 0, 2, ENDED);
    }

    private static void breakNeedsOne() {
        int[] answers = {DONE, DONE, BREAK, BREAK, BREAK};
        int[] steps = {1, 1, 3, 3, 3};
        for (int which = 0; which < COMMANDS; which++) {
            StepDebugger x = with(SET, 0, 1, SET, 1, 1, JUMP, 0, 0);
            x.breakAt(0, true);
            due("command " + which + " from a breakpoint", command(x, which, 5), answers[which]);
            dueTarget(x, steps[which] % 3, 0, steps[which], answers[which]);
        }
        StepDebugger self = with(JUMP, 0, 0);
        self.breakAt(0, true);
        due("go() by a JUMP to itself", self.go(), BREAK);
        dueTarget(self, 0, 0, 1, BREAK);
    }

    private static void tiredAtTheEdge() {
        for (int which = 1; which < COMMANDS; which++) {
            // The CALL is the first instruction, so that stepOver runs on too.
            StepDebugger x = with(CALL, 0, 1, SET, 0, 1, JUMP, 0, 1);
            due("command " + which, command(x, which, 9), TIRED);
            dueTarget(x, 2, 1, 150, TIRED);
        }
        for (int arrival = 149; arrival <= 151; arrival++) {
            StepDebugger x = countdown(arrival - 147, 48);
            int after = x.length();
            append(x, SET, 0, 1);
            x.breakAt(after, true);
            boolean soon = arrival <= 150;
            due("go() to a breakpoint after " + arrival, x.go(), soon ? BREAK : TIRED);
            dueTarget(x, soon ? after : after - 3, 0, soon ? arrival : 150, soon ? BREAK : TIRED);
        }
    }

    private static void everyCommandCountsAnew() {
        StepDebugger x = with(CALL, 0, 1, JUMP, 0, 1);
        due("stepOver()", x.stepOver(), TIRED);
        dueTarget(x, 1, 1, 150, TIRED);
        due("stepOut()", x.stepOut(), TIRED);
        dueTarget(x, 1, 1, 300, TIRED);
        due("go()", x.go(), TIRED);
        dueTarget(x, 1, 1, 450, TIRED);
        due("goTo(0)", x.goTo(0), TIRED);
        dueTarget(x, 1, 1, 600, TIRED);
        due("step()", x.step(), DONE);
        dueTarget(x, 1, 1, 601, DONE);
    }

    private static void staysOver(int reason) {
        for (int which = 0; which < COMMANDS; which++) {
            StepDebugger x = stoppedBy(reason);
            due("reason()", x.reason(), reason);
            String before = whole(x);
            for (int again = 0; again < 3; again++) {
                due("command " + which + " when over", command(x, which, x.position()), reason);
                dueSame("after command " + which, whole(x), before);
            }
            // Neither an instruction at the position where it is lost nor a breakpoint there makes it run.
            String stopped = target(x);
            append(x, SET, 3, 99, SET, 3, 99);
            x.breakAt(4, true);
            x.breakAt(0, true);
            for (int p = 0; p < 5; p++) {
                due("command " + which + " after emit and breakAt", command(x, which, p), reason);
            }
            dueSame("after emit, breakAt and command " + which, target(x), stopped);
        }
    }

    private static void resetWakes() {
        int[] over = {LOST, FAULTED, ENDED};
        int[] steps = {3, 8, 4};
        for (int i = 0; i < over.length; i++) {
            StepDebugger x = stoppedBy(over[i]);
            String before = whole(x);
            x.reset();
            due("step() after a reset", x.step(), DONE);
            dueTarget(x, 1, 0, 1, DONE);
            due("go() after a reset", x.go(), over[i]);
            due("steps()", x.steps(), steps[i]);
            dueSame("run again", whole(x), before);
        }
        StepDebugger grown = new StepDebugger();
        due("go() without a program", grown.go(), LOST);
        append(grown, SET, 0, 1, SET, 0, 2);
        due("step() before a reset", grown.step(), LOST);
        grown.reset();
        due("step() after a reset", grown.step(), DONE);
        dueTarget(grown, 1, 0, 1, DONE);
    }

    // ---- the order of the reasons

    private static void endedFirst() {
        int[] depths = {0, 1};
        for (int depth : depths) {
            for (int which = 0; which < COMMANDS; which++) {
                StepDebugger x = depth == 0 ? with(SET, 0, 1, END, 0, 0) : with(CALL, 0, 1, END, 0, 0);
                due("step()", x.step(), DONE);
                x.breakAt(1, true);
                due("command " + which + " at END, its aim and a breakpoint", command(x, which, 1), ENDED);
                dueTarget(x, 1, depth, 2, ENDED);
            }
        }
    }

    private static void lostBeforeDoneAndBreak() {
        for (int which = 0; which < COMMANDS; which++) {
            StepDebugger x = with(JUMP, 0, 2, BACK, 0, 0, CALL, 0, 1);
            x.breakAt(3, true);
            // stepOut starts inside the call, the others before it: each has its aim at the lost position.
            due("goTo", x.goTo(which == 2 ? 1 : 2), DONE);
            if (which == 0) {
                due("step()", x.step(), DONE);
            }
            due("command " + which + " off the program", command(x, which, 3), LOST);
            dueTarget(x, 3, 0, 3, LOST);
        }
    }

    private static void faultedBeforeDoneAndBreak() {
        for (int which = 0; which < COMMANDS; which++) {
            StepDebugger x = with(JUMP, 0, 3, SET, 0, 1, BACK, 0, 0, CALL, 0, 2, BACK, 0, 0);
            x.breakAt(4, true);
            due("goTo", x.goTo(which == 2 ? 2 : 3), DONE);
            if (which == 0) {
                due("step()", x.step(), DONE);
            }
            due("command " + which + " on to a BACK with none", command(x, which, 4), FAULTED);
            dueTarget(x, 4, 0, 3, FAULTED);
        }
        StepDebugger step = with(CALL, 0, 0);
        step.breakAt(0, true);
        for (int i = 1; i <= 5; i++) {
            due("step() number " + i, step.step(), DONE);
        }
        due("step() on to a CALL with six", step.step(), FAULTED);
        StepDebugger go = with(CALL, 0, 0);
        go.breakAt(0, true);
        for (int i = 1; i <= 5; i++) {
            due("go() number " + i, go.go(), BREAK);
        }
        due("go() on to a CALL with six", go.go(), FAULTED);
        StepDebugger goTo = with(CALL, 0, 0);
        for (int i = 1; i <= 5; i++) {
            due("goTo(0) number " + i, goTo.goTo(0), DONE);
        }
        due("goTo(0) on to a CALL with six", goTo.goTo(0), FAULTED);
        dueTarget(goTo, 0, 6, 6, FAULTED);
    }

    private static void doneBeforeBreak() {
        for (int which = 0; which < COMMANDS; which++) {
            if (which != 3) {
                StepDebugger x = with(CALL, 0, 2, END, 0, 0, BACK, 0, 0);
                due("goTo(2)", which == 1 ? DONE : x.goTo(2), DONE);
                x.breakAt(1, true);
                due("command " + which + " to its aim at a breakpoint", command(x, which, 1), DONE);
                dueTarget(x, 1, 0, 2, DONE);
            }
        }
        StepDebugger go = with(CALL, 0, 2, END, 0, 0, BACK, 0, 0);
        go.breakAt(1, true);
        due("go() has no aim", go.go(), BREAK);
    }

    /** What stands after a countdown, which command comes there, and what it answers when it comes in time. */
    private static void dueBeforeTired(int op, boolean aimed, boolean stopped, int answer) {
        for (int arrival = 149; arrival <= 151; arrival++) {
            StepDebugger x = countdown(arrival - 147, 48);
            int after = x.length();
            if (op >= 0) {
                append(x, op, 0, 0);
            }
            x.breakAt(after, stopped);
            boolean soon = arrival <= 150;
            int want = soon ? answer : TIRED;
            due("after " + arrival + " instructions to " + op, aimed ? x.goTo(after) : x.go(), want);
            dueTarget(x, soon ? after : after - 3, 0, soon ? arrival : 150, want);
        }
    }

    private static void allBeforeTired() {
        dueBeforeTired(-1, false, false, LOST);
        dueBeforeTired(-1, true, true, LOST);
        dueBeforeTired(BACK, false, false, FAULTED);
        dueBeforeTired(BACK, true, true, FAULTED);
        dueBeforeTired(SET, true, false, DONE);
        dueBeforeTired(SET, true, true, DONE);
        dueBeforeTired(SET, false, true, BREAK);
        // END is itself the instruction after the arrival.
        for (int arrival = 148; arrival <= 150; arrival++) {
            StepDebugger x = countdown(arrival - 147, 48);
            int after = x.length();
            append(x, END, 0, 0);
            int want = arrival < 150 ? ENDED : TIRED;
            due("go() to END as number " + (arrival + 1), x.go(), want);
            dueTarget(x, after, 0, arrival < 150 ? arrival + 1 : 150, want);
        }
    }

    private static void fullStackBeforeTired() {
        for (int extra = 0; extra <= 1; extra++) {
            StepDebugger x = countdown(extra, 47);
            int after = x.length();
            append(x, CALL, 0, after);
            // 144 to come to the CALL, and six of it.
            int want = extra == 0 ? FAULTED : TIRED;
            due("go() to a CALL with " + (6 - extra), x.go(), want);
            dueTarget(x, after, 6 - extra, 150, want);
        }
    }

    // ---- promises 1 to 5

    private static void newObject() {
        StepDebugger x = new StepDebugger();
        dueTarget(x, 0, 0, 0, FRESH);
        due("length()", x.length(), 0);
        due("breakpoints()", x.breakpoints(), 0);
        for (int p = -1; p <= 20; p++) {
            due("codeAt(" + p + ")", x.codeAt(p), -1);
        }
        for (int i = -1; i <= 23; i++) {
            due("peek(" + i + ")", x.peek(i), 0);
        }
        StepDebugger reset = new StepDebugger();
        reset.reset();
        dueSame("after reset()", whole(reset), whole(new StepDebugger()));
    }

    private static void emitAnswersPositions() {
        StepDebugger x = new StepDebugger();
        for (int i = 0; i < 20; i++) {
            due("a refused emit", x.emit(11, 0, 0), -2);
            due("emit number " + (i + 1), x.emit(i % 11, 3, 3), i);
        }
    }

    private static StepDebugger ofLength(int length) {
        StepDebugger x = new StepDebugger();
        for (int i = 0; i < length; i++) {
            append(x, SET, 0, i);
        }
        return x;
    }

    private static void emitWhenFull() {
        int[][] calls = {{SET, 0, 0}, {END, 3, 3}, {-1, 0, 0}, {11, 0, 0}, {SET, 4, 0}, {ADD, 0, 4}, {MAX, MAX, MAX}};
        int[] answers = {19, 19, -2, -2, -3, -3, -2};
        for (int i = 0; i < calls.length; i++) {
            int[] c = calls[i];
            due("emit with 19 there", ofLength(19).emit(c[0], c[1], c[2]), answers[i]);
            StepDebugger full = ofLength(20);
            due("emit with 20 there", full.emit(c[0], c[1], c[2]), -1);
            due("emit with 20 there, again", full.emit(c[0], c[1], c[2]), -1);
            due("length()", full.length(), 20);
        }
    }

    private static final int[] NUMBERS = {MIN, -4, -1, 0, 1, 2, 3, 4, 7, MAX};

    private static boolean isRegister(int number) {
        return number == 0 || number == 1 || number == 2 || number == 3;
    }

    private static void emitWrongOperation() {
        int[] wrongOps = {MIN, -11, -1, 11, 12, 16, 26, 256, MAX};
        for (int op : wrongOps) {
            for (int n : NUMBERS) {
                due("emit(" + op + ", 0, " + n + ")", new StepDebugger().emit(op, 0, n), -2);
                due("emit(" + op + ", " + n + ", 9)", new StepDebugger().emit(op, n, 9), -2);
            }
        }
        due("emit of the first op", new StepDebugger().emit(0, 0, 0), 0);
        due("emit of the last op", new StepDebugger().emit(10, 0, 0), 0);
    }

    private static void emitWrongFirst() {
        for (int op = 0; op <= 10; op++) {
            for (int a : NUMBERS) {
                int want = isRegister(a) ? 0 : -3;
                due("emit(" + op + ", " + a + ", 0)", new StepDebugger().emit(op, a, 0), want);
                due("emit(" + op + ", " + a + ", 3)", new StepDebugger().emit(op, a, 3), want);
            }
        }
    }

    private static void emitWrongSecond() {
        for (int op = 1; op <= 4; op++) {
            for (int b : NUMBERS) {
                int want = isRegister(b) ? 0 : -3;
                due("emit(" + op + ", 0, " + b + ")", new StepDebugger().emit(op, 0, b), want);
                due("emit(" + op + ", 3, " + b + ")", new StepDebugger().emit(op, 3, b), want);
                due("emit(" + op + ", 4, " + b + ")", new StepDebugger().emit(op, 4, b), -3);
            }
        }
    }

    private static void emitAnySecond() {
        int[] free = {SET, ZERO, JUMP, CALL, BACK, VIA, END};
        for (int op : free) {
            for (int b : NUMBERS) {
                due("emit(" + op + ", 0, " + b + ")", new StepDebugger().emit(op, 0, b), 0);
                due("emit(" + op + ", 3, " + b + ")", new StepDebugger().emit(op, 3, b), 0);
            }
        }
    }

    private static void refusedEmitChangesNothing() {
        dueRefused("emit(0, 0, 0) when full", true, x -> x.emit(SET, 0, 0), -1);
        dueRefused("emit(10, 3, 3) when full", true, x -> x.emit(END, 3, 3), -1);
        dueRefused("emit(11, 0, 0) when full", true, x -> x.emit(11, 0, 0), -1);
        dueRefused("emit(0, 4, 0) when full", true, x -> x.emit(SET, 4, 0), -1);
        dueRefused("emit(-1, 0, 0)", false, x -> x.emit(-1, 0, 0), -2);
        dueRefused("emit(11, 3, 3)", false, x -> x.emit(11, 3, 3), -2);
        dueRefused("emit(MIN, -1, 9)", false, x -> x.emit(MIN, -1, 9), -2);
        dueRefused("emit(0, -1, 5)", false, x -> x.emit(SET, -1, 5), -3);
        dueRefused("emit(10, 4, 5)", false, x -> x.emit(END, 4, 5), -3);
        dueRefused("emit(1, 0, 4)", false, x -> x.emit(ADD, 0, 4), -3);
        dueRefused("emit(4, 3, -1)", false, x -> x.emit(STORE, 3, -1), -3);
    }

    private static void emitLeavesTarget() {
        for (int reason = FRESH; reason <= ENDED; reason++) {
            StepDebugger x = stoppedBy(reason);
            due("reason()", x.reason(), reason);
            String before = target(x);
            int breaks = x.breakpoints();
            while (x.length() < 20) {
                append(x, END, 0, 0);
                dueSame("after emit", target(x), before);
            }
            due("emit when full", x.emit(END, 0, 0), -1);
            dueSame("after a refused emit", target(x), before);
            due("breakpoints()", x.breakpoints(), breaks);
        }
    }

    private static void lengthFromNoneToFull() {
        StepDebugger x = new StepDebugger();
        for (int i = 0; i < 20; i++) {
            due("length()", x.length(), i);
            x.emit(SET, 0, 0);
        }
        due("length() when full", x.length(), 20);
        x.emit(SET, 0, 0);
        due("length() after a refused emit", x.length(), 20);
        x.go();
        x.reset();
        due("length() after a run and a reset", x.length(), 20);
    }

    private static void codeOfEveryOperation() {
        for (int op = 0; op <= 10; op++) {
            for (int a = 0; a <= 3; a++) {
                StepDebugger x = with(op, a, 3);
                due("codeAt(0) of " + op + " with a " + a, x.codeAt(0), op + 16 * a);
            }
        }
        due("the least code", with(SET, 0, MAX).codeAt(0), 0);
        due("the greatest code", with(END, 3, MIN).codeAt(0), 58);
        due("an a that is not used", with(JUMP, 3, -1).codeAt(0), 54);
    }

    private static void codeOutside() {
        int[] lengths = {0, 1, 19, 20};
        for (int length : lengths) {
            StepDebugger x = ofLength(length);
            int[] outside = {MIN, -20, -1, length, length + 1, 20, 21, 32, MAX};
            for (int p : outside) {
                due("codeAt(" + p + ") of " + length, x.codeAt(p), -1);
            }
            for (int p = 0; p < length; p++) {
                due("codeAt(" + p + ") of " + length, x.codeAt(p), 0);
            }
        }
    }

    private static void codeUnderBreakpoints() {
        StepDebugger x = busyAndFull();
        int[] before = new int[22];
        for (int p = -1; p <= 20; p++) {
            before[p + 1] = x.codeAt(p);
        }
        for (int p = 0; p < 20; p++) {
            x.breakAt(p, true);
        }
        for (int p = -1; p <= 20; p++) {
            due("codeAt(" + p + ") with a breakpoint", x.codeAt(p), before[p + 1]);
        }
        x.reset();
        for (int i = 0; i < 10; i++) {
            x.go();
        }
        for (int p = 0; p < 20; p++) {
            due("codeAt(" + p + ") after running by breakpoints", x.codeAt(p), before[p + 1]);
            x.breakAt(p, false);
            due("codeAt(" + p + ") without a breakpoint", x.codeAt(p), before[p + 1]);
        }
    }

    private static void resetFromEveryReason() {
        String first = target(new StepDebugger());
        for (int reason = FRESH; reason <= ENDED; reason++) {
            StepDebugger x = stoppedBy(reason);
            due("reason()", x.reason(), reason);
            x.reset();
            dueSame("after reset()", target(x), first);
            x.reset();
            dueSame("after a second reset()", target(x), first);
        }
        StepDebugger full = sixCalls(SET);
        full.goTo(18);
        full.reset();
        dueSame("after reset() of a full stack", target(full), first);
        StepDebugger used = busy();
        used.reset();
        dueSame("after reset() of a busy one", target(used), first);
        due("go() after the reset", used.go(), BREAK);
        dueSame("run again", whole(used), whole(busy()));
        resetOfEveryCell(first);
    }

    private static void resetOfEveryCell(String first) {
        StepDebugger x = with(SET, 1, 1, SET, 2, 2, SET, 3, 3, ADD, 0, 1, STORE, 1, 0, JUMP, 0, 3);
        due("go()", x.go(), TIRED);
        for (int i = 8; i < 16; i++) {
            due("peek(" + i + ")", x.peek(i), 1);
        }
        x.reset();
        dueSame("after reset() of registers and cells", target(x), first);
    }

    private static void resetKeepsProgram() {
        StepDebugger x = busyAndFull();
        x.breakAt(0, true);
        x.breakAt(19, true);
        String before = program(x);
        x.reset();
        dueSame("after reset()", program(x), before);
        due("breakpoints()", x.breakpoints(), 1 | 1 << 10 | 1 << 18 | 1 << 19);
        due("emit when full", x.emit(SET, 0, 0), -1);
    }

    // ---- promises 6 and 7

    private static void breakTwice() {
        int[] places = {0, 1, 18, 19};
        for (int p : places) {
            StepDebugger x = new StepDebugger();
            due("breakAt(" + p + ", false) with none", x.breakAt(p, false), true);
            due("breakpoints()", x.breakpoints(), 0);
            due("breakAt(" + p + ", true)", x.breakAt(p, true), true);
            due("breakAt(" + p + ", true) again", x.breakAt(p, true), true);
            due("breakpoints()", x.breakpoints(), 1 << p);
            due("breakAt(" + p + ", false)", x.breakAt(p, false), true);
            due("breakAt(" + p + ", false) again", x.breakAt(p, false), true);
            due("breakpoints()", x.breakpoints(), 0);
        }
    }

    private static final int[] NO_PLACES = {MIN, MIN + 5, -32, -13, -1, 20, 21, 31, 32, 42, 64, MAX};

    private static void breakAtTheEdges() {
        for (int p : NO_PLACES) {
            due("breakAt(" + p + ", true)", new StepDebugger().breakAt(p, true), false);
            due("breakAt(" + p + ", false)", new StepDebugger().breakAt(p, false), false);
        }
        for (int p = 0; p < 20; p++) {
            due("breakAt(" + p + ", true)", new StepDebugger().breakAt(p, true), true);
            due("breakAt(" + p + ", false)", new StepDebugger().breakAt(p, false), true);
        }
        StepDebugger full = ofLength(20);
        due("breakAt(20, true) of a full program", full.breakAt(20, true), false);
        due("breakAt(19, true) of a full program", full.breakAt(19, true), true);
    }

    private static void refusedBreakChangesNothing() {
        for (int p : NO_PLACES) {
            dueRefused("breakAt(" + p + ", true)", false, x -> x.breakAt(p, true) ? 1 : 0, 0);
            dueRefused("breakAt(" + p + ", false)", false, x -> x.breakAt(p, false) ? 1 : 0, 0);
            dueRefused("breakAt(" + p + ", false) when full", true, x -> x.breakAt(p, false) ? 1 : 0, 0);
        }
    }

    private static void breakBeyondProgram() {
        StepDebugger x = new StepDebugger();
        due("breakAt(0, true) without a program", x.breakAt(0, true), true);
        due("breakAt(19, true) without a program", x.breakAt(19, true), true);
        due("length()", x.length(), 0);
        for (int i = 0; i < 20; i++) {
            append(x, SET, 0, i);
        }
        due("go() to the breakpoint put before the program", x.go(), BREAK);
        dueTarget(x, 19, 0, 19, BREAK);
        StepDebugger beyond = with(SET, 0, 1);
        beyond.breakAt(1, true);
        due("go() to a breakpoint behind the program", beyond.go(), LOST);
    }

    private static void bitsOfBreakpoints() {
        StepDebugger x = new StepDebugger();
        int sum = 0;
        int bit = 1;
        for (int p = 0; p < 20; p++) {
            x.breakAt(p, true);
            sum += bit;
            bit *= 2;
            due("breakpoints()", x.breakpoints(), sum);
        }
        due("all breakpoints", x.breakpoints(), 1048575);
        x.breakAt(0, false);
        due("without that at 0", x.breakpoints(), 1048574);
        x.breakAt(19, false);
        due("without that at 19", x.breakpoints(), 524286);
    }

    // ---- promises 8 to 12

    private static void stepIsOne() {
        for (int op = SET; op <= END; op++) {
            if (op != BACK) {
                StepDebugger x = with(op, 0, 0, SET, 0, 1);
                x.breakAt(0, true);
                x.breakAt(1, true);
                due("step() of " + op, x.step(), op == END ? ENDED : DONE);
                due("steps() after " + op, x.steps(), 1);
            }
        }
        StepDebugger ring = with(JUMP, 0, 0);
        for (int i = 1; i <= 151; i++) {
            due("step() number " + i, ring.step(), DONE);
        }
        dueTarget(ring, 0, 0, 151, DONE);
    }

    private static void stepOverAtFiveAndSix() {
        StepDebugger five = sixCalls(BACK);
        five.goTo(15);
        due("depth()", five.depth(), 5);
        due("stepOver() of the sixth CALL", five.stepOver(), DONE);
        dueTarget(five, 16, 5, 7, DONE);
        StepDebugger six = sixCalls(CALL);
        six.goTo(15);
        due("stepOver() on to the seventh CALL", six.stepOver(), FAULTED);
        dueTarget(six, 18, 6, 6, FAULTED);
        due("stepOver() of the seventh CALL", six.stepOver(), FAULTED);
        dueTarget(six, 18, 6, 6, FAULTED);
    }

    private static void stepOverDeeperIsNotEnough() {
        // A CALL to the position after it is there at once, but one deeper.
        StepDebugger next = with(CALL, 0, 1, ZERO, 0, 3, END, 0, 0, SET, 0, 1, BACK, 0, 0);
        due("stepOver() of a CALL to the next", next.stepOver(), DONE);
        dueTarget(next, 1, 0, 4, DONE);
        StepDebugger stays = with(CALL, 0, 1, JUMP, 0, 1);
        due("stepOver() of a call that stays after the CALL", stays.stepOver(), TIRED);
        dueTarget(stays, 1, 1, 150, TIRED);
        // From depth 0 to 5: the depth before the command counts, not an empty stack.
        for (int depth = 0; depth <= 5; depth++) {
            StepDebugger x = sixCalls(BACK);
            if (depth > 0) {
                x.goTo(3 * depth);
            }
            // Each deeper CALL brings itself, a SET and a BACK.
            due("stepOver() from depth " + depth, x.stepOver(), DONE);
            dueTarget(x, 3 * depth + 1, depth, depth + 3 * (5 - depth) + 2, DONE);
        }
        stepOverAtTheLastInstruction();
    }

    private static void stepOverAtTheLastInstruction() {
        for (int extra = 0; extra <= 2; extra++) {
            // The CALL, 147 of the countdown and the BACK; 149, 150 and 151 in all.
            StepDebugger x = with(CALL, 0, 2, SET, 2, 1);
            appendCountdown(x, extra, 48);
            int back = x.length();
            append(x, BACK, 0, 0);
            boolean soon = extra <= 1;
            due("stepOver() of " + (149 + extra), x.stepOver(), soon ? DONE : TIRED);
            dueTarget(x, soon ? 1 : back, soon ? 0 : 1, soon ? 149 + extra : 150, soon ? DONE : TIRED);
        }
    }

    private static void stepOverLastCall() {
        StepDebugger x = with(JUMP, 0, 2, BACK, 0, 0, CALL, 0, 1);
        due("goTo(2)", x.goTo(2), DONE);
        due("stepOver() of a last CALL", x.stepOver(), LOST);
        dueTarget(x, 3, 0, 3, LOST);
        StepDebugger first = with(CALL, 0, 2, SET, 0, 1, BACK, 0, 0);
        due("stepOver() of a first CALL", first.stepOver(), DONE);
        dueTarget(first, 1, 0, 2, DONE);
        StepDebugger ends = with(CALL, 0, 2, SET, 0, 1, END, 0, 0);
        due("stepOver() of a call that ends", ends.stepOver(), ENDED);
        dueTarget(ends, 2, 1, 2, ENDED);
        StepDebugger out = with(CALL, 0, -1, SET, 0, 1);
        due("stepOver() of a CALL to nowhere", out.stepOver(), LOST);
        dueTarget(out, -1, 1, 1, LOST);
    }

    private static void stepOverOthers() {
        for (int op = SET; op <= END; op++) {
            if (op != CALL) {
                StepDebugger x = with(CALL, 0, 2, SET, 1, 1, op, 0, 2, SET, 2, 1);
                StepDebugger twin = with(CALL, 0, 2, SET, 1, 1, op, 0, 2, SET, 2, 1);
                x.step();
                twin.step();
                x.breakAt(3, true);
                twin.breakAt(3, true);
                due("stepOver() of " + op, x.stepOver(), op == END ? ENDED : DONE);
                due("step() of " + op, twin.step(), op == END ? ENDED : DONE);
                dueSame("after stepOver() of " + op, whole(x), whole(twin));
                due("steps()", x.steps(), 2);
            }
        }
    }

    private static void stepOutFromEveryDepth() {
        for (int depth = 1; depth <= 6; depth++) {
            StepDebugger x = sixCalls(BACK);
            x.goTo(3 * depth);
            due("depth()", x.depth(), depth);
            due("stepOut() from depth " + depth, x.stepOut(), DONE);
            // As many as the CALLs that are still to come need, and the BACK.
            dueTarget(x, 3 * depth - 2, depth - 1, depth + 3 * (6 - depth) + 1, DONE);
        }
        for (int extra = 0; extra <= 2; extra++) {
            StepDebugger x = with(CALL, 0, 2, SET, 2, 1);
            appendCountdown(x, extra + 1, 48);
            int back = x.length();
            append(x, BACK, 0, 0);
            x.step();
            boolean soon = extra <= 1;
            due("stepOut() after " + (149 + extra), x.stepOut(), soon ? DONE : TIRED);
            dueTarget(x, soon ? 1 : back, soon ? 0 : 1, soon ? 150 + extra : 151, soon ? DONE : TIRED);
        }
    }

    private static void stepOutFromNone() {
        StepDebugger x = with(CALL, 0, 2, JUMP, 0, 0, BACK, 0, 0);
        due("stepOut() with calls that come back", x.stepOut(), TIRED);
        dueTarget(x, 0, 0, 150, TIRED);
        StepDebugger back = with(CALL, 0, 2, BACK, 0, 0, BACK, 0, 0);
        due("stepOut() on to a BACK with none", back.stepOut(), FAULTED);
        dueTarget(back, 1, 0, 2, FAULTED);
        StepDebugger stopped = with(CALL, 0, 2, END, 0, 0, BACK, 0, 0);
        stopped.breakAt(1, true);
        due("stepOut() to a breakpoint", stopped.stepOut(), BREAK);
        dueTarget(stopped, 1, 0, 2, BREAK);
        due("stepOut() to the end", stopped.stepOut(), ENDED);
        due("stepOut() without a program", new StepDebugger().stepOut(), LOST);
    }

    private static void goHasNoAim() {
        StepDebugger x = with(CALL, 0, 2, JUMP, 0, 0, BACK, 0, 0);
        due("go() in a ring with calls", x.go(), TIRED);
        dueTarget(x, 0, 0, 150, TIRED);
        StepDebugger inside = with(CALL, 0, 2, JUMP, 0, 0, BACK, 0, 0);
        inside.step();
        due("go() from inside a call", inside.go(), TIRED);
        dueTarget(inside, 2, 1, 151, TIRED);
    }

    private static void goToAnyInt() {
        int[] never = {MIN, -20, -1, 3, 19, 20, 32, MAX};
        for (int p : never) {
            StepDebugger x = with(SET, 0, 1, SET, 0, 2, JUMP, 0, 0);
            due("goTo(" + p + ")", x.goTo(p), TIRED);
            dueTarget(x, 0, 0, 150, TIRED);
            // The position may be p and still be lost.
            StepDebugger lost = with(JUMP, 0, p, END, 0, 0);
            due("goTo(" + p + ") there", lost.goTo(p), LOST);
            dueTarget(lost, p, 0, 1, LOST);
        }
        StepDebugger last = ofLength(20);
        due("goTo(19)", last.goTo(19), DONE);
        dueTarget(last, 19, 0, 19, DONE);
        StepDebugger first = with(SET, 0, 1, SET, 0, 2, JUMP, 0, 0);
        due("goTo(0)", first.goTo(0), DONE);
        dueTarget(first, 0, 0, 3, DONE);
    }

    // ---- promises 13 to 17

    private static void reasonOnlyOfCommands() {
        for (int reason = FRESH; reason <= ENDED; reason++) {
            StepDebugger x = stoppedBy(reason);
            due("reason()", x.reason(), reason);
            x.emit(SET, 0, 1);
            x.emit(11, 0, 0);
            x.breakAt(0, true);
            x.breakAt(20, true);
            whole(x);
            due("reason() after calls that run nothing", x.reason(), reason);
            x.reset();
            due("reason() after a reset", x.reason(), FRESH);
        }
    }

    private static void positionAnyInt() {
        int[] places = {MIN, -1, 2, 20, MAX};
        for (int p : places) {
            StepDebugger x = with(JUMP, 0, p, END, 0, 0);
            x.step();
            due("position()", x.position(), p);
            x.step();
            due("position() after a command when lost", x.position(), p);
            x.reset();
            due("position() after a reset", x.position(), 0);
        }
    }

    private static void peekRegisters() {
        StepDebugger x = with(SET, 0, 10, SET, 1, 11, SET, 2, 12, SET, 3, 13, END, 0, 0);
        due("go()", x.go(), ENDED);
        int[] want = {0, 10, 11, 12, 13, 0};
        for (int i = -1; i <= 4; i++) {
            due("peek(" + i + ")", x.peek(i), want[i + 1]);
        }
    }

    private static StepDebugger everyCellFull() {
        StepDebugger x = with(SET, 2, 8, SET, 3, 1, STORE, 2, 2, SUB, 2, 3, ZERO, 2, 6, JUMP, 0, 2, SET, 2, 6,
                CALL, 0, 9, END, 0, 0, END, 0, 0);
        due("go()", x.go(), ENDED);
        return x;
    }

    private static void peekCells() {
        StepDebugger x = everyCellFull();
        int[] want = {0, 8, 1, 2, 3, 4, 5, 6, 7};
        for (int i = 7; i <= 15; i++) {
            due("peek(" + i + ")", x.peek(i), want[i - 7]);
        }
        due("peek(16)", x.peek(16), 8);
    }

    private static void peekReturns() {
        for (int depth = 0; depth <= 6; depth++) {
            StepDebugger x = sixCalls(BACK);
            if (depth > 0) {
                x.goTo(3 * depth);
            }
            for (int i = 15; i <= 23; i++) {
                int number = i - 16;
                boolean there = number >= 0 && number < depth;
                due("peek(" + i + ") with " + depth, x.peek(i), there ? 3 * number + 1 : 0);
            }
        }
        StepDebugger popped = sixCalls(BACK);
        popped.goTo(18);
        popped.step();
        due("peek(20) after a BACK", popped.peek(20), 13);
        due("peek(21) after a BACK", popped.peek(21), 0);
    }

    private static void peekElsewhere() {
        StepDebugger x = everyCellFull();
        int[] others = {MIN, MIN + 8, MIN + 16, -16, -8, -4, -1, 4, 5, 6, 7, 17, 18, 21, 22, 23, 32, 40, 64, MAX};
        for (int i : others) {
            due("peek(" + i + ")", x.peek(i), 0);
        }
        StepDebugger full = sixCalls(SET);
        full.goTo(18);
        int[] beyond = {MIN, -1, 4, 7, 15, 22, 23, 32, MAX};
        for (int i : beyond) {
            due("peek(" + i + ") of a full stack", full.peek(i), 0);
        }
    }

    private static void depthFromNoneToFull() {
        StepDebugger x = sixCalls(BACK);
        for (int i = 0; i <= 6; i++) {
            due("depth()", x.depth(), i);
            x.step();
        }
        due("depth() after the first BACK", x.depth(), 5);
        StepDebugger full = sixCalls(CALL);
        full.go();
        due("depth() at a CALL that can't be carried out", full.depth(), 6);
        full.step();
        due("depth() after a command there", full.depth(), 6);
        StepDebugger none = with(BACK, 0, 0);
        none.step();
        due("depth() at a BACK that can't be carried out", none.depth(), 0);
    }

    private static void stepsCountOnlyCarriedOut() {
        StepDebugger empty = new StepDebugger();
        due("steps()", empty.steps(), 0);
        empty.step();
        due("steps() when lost before the first", empty.steps(), 0);
        StepDebugger fault = with(SET, 0, 1, BACK, 0, 0);
        fault.go();
        due("steps() without the BACK that faults", fault.steps(), 1);
        StepDebugger full = with(CALL, 0, 0);
        full.go();
        due("steps() without the CALL that faults", full.steps(), 6);
        StepDebugger end = with(END, 0, 0);
        end.go();
        due("steps() with END", end.steps(), 1);
        end.go();
        due("steps() when over", end.steps(), 1);
        end.reset();
        due("steps() after a reset", end.steps(), 0);
        end.go();
        due("steps() since the reset", end.steps(), 1);
    }
}

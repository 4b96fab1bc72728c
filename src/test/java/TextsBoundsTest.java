import java.util.function.Consumer;

/** Boundary cases of the promises 12 to 16, and of "Terms", input text and undo: the buffer, programs, saved states. */
public final class TextsBoundsTest {

    /** A program of 30 steps, as many as the buffer can hold: 59 characters. */
    private static final String THIRTY_STEPS = "b" + ";b".repeat(29);

    /** A program of 60 characters: 20 steps. */
    private static final String SIXTY_CHARACTERS = "w00" + "=1" + ";t1".repeat(17) + ";b;b";

    public static void main(String[] args) {
        Bounds.promise("promise 12, append");
        append();
        Bounds.promise("promise 13, clearBuffer");
        clearBuffer();
        Bounds.promise("promise 14, firstError");
        firstErrorAtEnds();
        firstErrorOfEachPlace();
        Bounds.promise("promise 15, run");
        run();
        runOfLengths();
        runStopsAtCores();
        runStopsAtOthers();
        runRefused();
        Bounds.promise("promise 16, undo");
        undo();
        undoOfBuffer();
        Bounds.promise("Terms, undo");
        restoresEach();
        restoresClaims();
        savesEvenIfNothingChanges();
        Bounds.end();
    }

    // ---- promise 12

    private static void append() {
        Bounds.test("code: 33 is the least, 126 the greatest", r -> {
            r.same("append(33)", 1, r.append(33));
            r.same("append(126)", 2, r.append(126));
        });
        Bounds.test("code: each of 33 to 126", r -> {
            for (int code = 33; code <= 126; code++) {
                if (code == 80) {
                    r.clearBuffer();
                }
                r.same("append(" + code + ")", code < 80 ? code - 32 : code - 79, r.append(code));
            }
        });
        Bounds.test("IllegalArgumentException if code is not 33 to 126",
            r -> r.noArgument("append", (o, v) -> o.append(v), -1, 0, 32, 127, 128, 33 + 256, 65536 + 'b'));
        Bounds.test("the buffer has at most 60 characters: the 60th", r -> {
            r.type("b".repeat(59));
            r.same("append", 60, r.append('b'));
            r.same("clearBuffer()", 60, r.clearBuffer());
        });
        Bounds.test("IllegalStateException if the buffer has 60 characters", r -> {
            r.type("b".repeat(60));
            r.noState("append(33)", o -> o.append(33));
            r.noState("append(126)", o -> o.append(126));
        });
        Bounds.test("IllegalArgumentException ahead of IllegalStateException", r -> {
            r.type("b".repeat(60));
            r.noArgument("append to a full buffer", (o, v) -> o.append(v), 32, 127);
        });
        Bounds.test("behind clearBuffer there is room again", r -> {
            r.type("b".repeat(60));
            r.clearBuffer();
            r.same("append", 1, r.append('b'));
        });
        Bounds.test("a refused append changes nothing, the saved states neither",
            r -> r.busy().noArgument("append", (o, v) -> o.append(v), 32, 127));
        Bounds.test("not undoable", r -> {
            r.append('b');
            r.sameCounts("behind it", 18, 0);
            r.noState("undo()", o -> o.undo());
        });
    }

    // ---- promise 13

    private static void clearBuffer() {
        Bounds.test("an empty buffer", r -> {
            r.same("clearBuffer()", 0, r.clearBuffer());
            r.same("firstError()", 0, r.firstError());
        });
        Bounds.test("a buffer with one character", r -> {
            r.append('x');
            r.same("clearBuffer()", 1, r.clearBuffer());
            r.same("clearBuffer()", 0, r.clearBuffer());
            r.same("digest()", new CoreLeases().digest(), r.digest());
        });
        Bounds.test("a full buffer", r -> {
            r.type("x".repeat(60));
            r.same("clearBuffer()", 60, r.clearBuffer());
            r.same("digest()", new CoreLeases().digest(), r.digest());
        });
        Bounds.test("not undoable", r -> {
            r.append('b');
            r.clearBuffer();
            r.sameCounts("behind it", 18, 0);
            r.noState("undo()", o -> o.undo());
        });
    }

    // ---- promise 14

    private static void sameError(String text, int due) {
        Bounds.test("the buffer " + text, r -> {
            r.type(text);
            r.same("firstError()", due, r.firstError());
            r.same("the buffer stays", text.length(), r.clearBuffer());
        });
    }

    private static void firstErrorAtEnds() {
        Bounds.test("the length of the buffer if there is none: an empty buffer",
            r -> r.same("firstError()", 0, r.firstError()));
        Bounds.test("the index of the first character: 0", r -> {
            r.append('x');
            r.same("firstError()", 0, r.firstError());
        });
        sameError("b", 1);
        sameError(THIRTY_STEPS, 59);
        sameError(THIRTY_STEPS + ";", 60);
        sameError(SIXTY_CHARACTERS, 60);
        sameError(THIRTY_STEPS + "b", 59);
        sameError("x" + THIRTY_STEPS, 0);
        sameError("t1;".repeat(18) + "t1;w00", 60);
        sameError("t1;".repeat(18) + "t1;w08", 59);
        sameError("t1;".repeat(19) + "t1x", 59);
        sameError("t1;".repeat(19) + "t1;", 60);
        sameError("b;x;x", 2);
        Bounds.test("not undoable, and nothing changes", r -> {
            r.busy();
            r.leavesAll("firstError()", o -> o.firstError());
        });
    }

    /** For each place in a program: all the characters that may stand there, and every other one is an error. */
    private static void firstErrorOfEachPlace() {
        String[] ahead = {"", "r", "r0", "r00", "r77", "w", "w7", "w07", "w07=", "w07=1", "b", "t", "t1", "t9", "b;", "r35;",
            "w44=0;", "t5;", "b;r", "b;w00", "b;t"};
        String[] right = {"rwbt", "01234567", "01234567", ";", ";", "01234567", "01234567", "=", "01", ";", ";",
            "123456789", ";", ";", "rwbt", "rwbt", "rwbt", "rwbt", "01234567", "=", "123456789"};
        for (int i = 0; i < ahead.length; i++) {
            String text = ahead[i];
            String may = right[i];
            Bounds.test("behind " + text + " just one of " + may + " may stand", r -> {
                for (int code = 33; code <= 126; code++) {
                    CoreLeases x = new CoreLeases();
                    for (char c : text.toCharArray()) {
                        x.append(c);
                    }
                    x.append(code);
                    int due = may.indexOf(code) >= 0 ? text.length() + 1 : text.length();
                    r.same("firstError() of " + text + (char) code, due, x.firstError());
                }
            });
        }
    }

    // ---- promise 15

    private static void run() {
        Bounds.test("tenant: 0 is the first, 5 the last of 6", r -> {
            for (int i = 0; i < 6; i++) {
                r.addTenant(100);
            }
            r.lease(0, 0, 9);
            r.lease(63, 5, 9);
            r.type("w00=1");
            r.same("run(0)", 1, r.run(0));
            r.type("w77=1");
            r.same("run(5)", 1, r.run(5));
            r.sameCounts("both", 7, 2);
        });
        Bounds.test("t: the least and the greatest digit", r -> {
            r.calm().type("t1");
            r.same("run(0)", 1, r.run(0));
            r.sameCounts("t1", 0, 1);
            r.type("t9");
            r.same("run(0)", 1, r.run(0));
            r.sameCounts("t9", 0, 10);
        });
        Bounds.test("t: each of so many ticks is one", r -> {
            r.calm().ones(0, 1);
            r.lease(2, 1, 3);
            r.write(2, true);
            r.heatTo(90);
            r.read(0);
            r.read(2);
            r.type("t9");
            r.same("run(0)", 1, r.run(0));
            // The write-back of 2 was dropped with its lease in the third tick, that of 0 was late in the sixth.
            r.sameCounts("behind t9", 0, 9, 1, 72, 6, 0, 12, 1, 15, 1);
        });
        Bounds.test("w: the bits 0 and 1", r -> {
            r.calm().one(0);
            r.type("w00=0");
            r.run(0);
            r.same("core(0, 0)", 0, r.core(0, 0));
            r.type("w00=1");
            r.run(0);
            r.same("core(0, 0)", 1, r.core(0, 0));
        });
        Bounds.test("undoable, as one call: of one step", r -> {
            r.addTenant(0);
            r.type("t9");
            r.same("run(0)", 1, r.run(0));
            r.sameCounts("behind it", 0, 9, 18, 2);
            r.same("undo()", 1, r.undo());
            r.sameCounts("behind undo", 0, 0);
        });
        Bounds.test("undoable, as one call: of more steps than states can be saved", r -> {
            r.addTenant(0);
            r.type("t9;t9;t9;t9;t9;t9;t9;t9");
            r.same("run(0)", 8, r.run(0));
            r.sameCounts("behind it", 0, 72, 18, 2);
            r.same("undo()", 1, r.undo());
            r.sameCounts("behind undo", 0, 0);
            r.same("undo()", 0, r.undo());
            r.sameCounts("behind the second undo", 2, 0);
        });
        Bounds.test("a tick of the program may end the lease, and late write-backs are lost in it", r -> {
            r.calm().lease(0, 0, 3);
            r.write(0, true);
            r.one(1);
            r.type("r00;r01;t3;w01=0;t6;r00;b");
            r.same("run(0)", 5, r.run(0));
            r.sameCounts("behind it", 0, 9, 14, 1, 15, 1, 8, 2);
        });
        Bounds.test("clears the buffer, also if not all steps are done", r -> {
            r.calm().type("t1;b;t1");
            r.same("run(0)", 1, r.run(0));
            r.same("clearBuffer()", 0, r.clearBuffer());
        });
    }

    private static void runOfLengths() {
        Bounds.test("the shortest program", r -> {
            r.calm().one(0);
            r.read(0);
            r.type("b");
            r.same("run(1)", 1, r.run(1));
            r.same("core(0, 0)", 1, r.core(0, 0));
        });
        Bounds.test("the most steps: 30", r -> {
            r.calm().allOnes();
            for (int core = 0; core < 30; core++) {
                r.read(core);
            }
            r.type(THIRTY_STEPS);
            r.same("run(0)", 30, r.run(0));
            r.sameCounts("all are done", 10, 30, 6, 0);
        });
        Bounds.test("the most characters: 60", r -> {
            r.calm().ones(0, 1, 2);
            r.set(3, 50);
            r.read(1);
            r.read(2);
            r.type(SIXTY_CHARACTERS);
            r.same("run(0)", 20, r.run(0));
            r.sameCounts("all are done", 10, 2, 0, 17);
        });
    }

    private static void sameStop(String told, String text, int done) {
        Bounds.test("up to the first one " + told + ": " + text, r -> {
            r.calm().ones(0, 9);
            r.lease(1, 1, 200);
            r.write(1, true);
            r.read(9);
            r.type(text);
            r.same("run(0)", done, r.run(0));
            r.sameCounts("behind it", 0, done, 18, 6);
            r.same("clearBuffer()", 0, r.clearBuffer());
            r.undo();
            r.sameCounts("behind undo", 0, 0, 6, 1);
        });
    }

    private static void runStopsAtCores() {
        sameStop("whose core is not leased to this tenant, at the first", "r02;t1", 0);
        sameStop("whose core is not leased to this tenant, at the last", "t1;r02", 1);
        sameStop("whose core is not leased to this tenant, in between", "t1;t1;w02=1;t1", 2);
        sameStop("whose core is leased to another tenant", "t1;r01;t1", 1);
        sameStop("whose core is leased to another tenant", "t1;w01=0;t1", 1);
        sameStop("whose method would throw: a write-back is owed for the core", "t1;r11;t1", 1);
        Bounds.test("only cores that are leased to this tenant: a core that another tenant may read", r -> {
            r.calm().ones(0);
            r.type("r00");
            r.same("run(1)", 0, r.run(1));
            r.type("r00");
            r.same("run(0)", 1, r.run(0));
        });
        Bounds.test("a write is done where a write-back is owed", r -> {
            r.calm().one(0);
            r.read(0);
            r.type("w00=1;r00;r00");
            r.same("run(0)", 2, r.run(0));
            r.sameCounts("behind it", 14, 1, 6, 1);
        });
        Bounds.test("whose core is not leased to this tenant any more", r -> {
            r.calm().lease(0, 0, 2);
            r.type("w00=1;t1;w00=1;t1;w00=1;t1");
            r.same("run(0)", 4, r.run(0));
            r.sameCounts("behind it", 0, 2);
        });
    }

    private static void runStopsAtOthers() {
        Bounds.test("up to the first one whose method would throw: no write-back is owed", r -> {
            r.calm().type("b;t9");
            r.same("run(0)", 0, r.run(0));
            r.sameCounts("behind it", 0, 0);
        });
        Bounds.test("up to the first one whose method would throw: no write-back is owed any more", r -> {
            r.calm().one(0);
            r.read(0);
            r.type("b;b;t9");
            r.same("run(0)", 1, r.run(0));
            r.sameCounts("behind it", 0, 0, 10, 1);
        });
        Bounds.test("b: a write-back of whatever core", r -> {
            r.calm().one(0);
            r.read(0);
            r.type("b");
            r.same("run(1)", 1, r.run(1));
            r.same("core(0, 0)", 1, r.core(0, 0));
        });
        Bounds.test("the time may become 10000 by a step", r -> {
            r.calm().late(9991);
            r.type("t9;t1");
            r.same("run(0)", 1, r.run(0));
            r.sameCounts("time", 0, 10000);
        });
        Bounds.test("up to the first one whose method would throw: the time would be above 10000, by one", r -> {
            r.calm().late(9992);
            r.type("t9;t1");
            r.same("run(0)", 0, r.run(0));
            r.sameCounts("time", 0, 9992);
            r.type("t1;t8;t7");
            r.same("run(0)", 1, r.run(0));
            r.sameCounts("time", 0, 9993);
        });
        Bounds.test("undoable, also if no step is done", r -> {
            r.calm();
            while (r.count(18) > 0) {
                r.undo();
            }
            r.addTenant(5);
            r.type("b");
            r.same("run(0)", 0, r.run(0));
            r.sameCounts("behind it", 18, 2);
            r.same("undo()", 1, r.undo());
            r.same("the buffer stays clear", 0, r.clearBuffer());
        });
    }

    private static void runRefused() {
        String[] texts = {"", "r", "r0", "w", "w0", "w00", "w00=", "t", "b;", "r00;", "w00=1;", "t1;", ";", "b;;b", ";b",
            "x", "bx", "t0", "r80", "r08", "w80=1", "w08=1", "w00=2", "t1;b;x", "b b".replace(' ', '!'), THIRTY_STEPS + ";",
            THIRTY_STEPS + "b"};
        for (String text : texts) {
            Bounds.test("IllegalArgumentException if the buffer is not a complete program: " + text, r -> {
                r.calm().type(text);
                r.noArgument("run(0)", o -> o.run(0));
                r.noArgument("run(1)", o -> o.run(1));
            });
        }
        Bounds.test("IndexOutOfBoundsException if there is no such tenant: one beyond the last", r -> {
            r.calm().type("t1");
            r.noIndex("run", (o, v) -> o.run(v), -1, 2);
        });
        Bounds.test("IndexOutOfBoundsException if there is no such tenant: one beyond the sixth", r -> {
            for (int i = 0; i < 6; i++) {
                r.addTenant(1);
            }
            r.type("t1");
            r.noIndex("run", (o, v) -> o.run(v), -1, 6);
        });
        Bounds.test("IndexOutOfBoundsException ahead of IllegalArgumentException", r -> {
            r.calm().noIndex("run of an empty buffer", (o, v) -> o.run(v), -1, 2);
            r.type("t1;");
            r.noIndex("run of half a program", (o, v) -> o.run(v), -1, 2);
        });
        Bounds.test("a refused run changes nothing, the buffer and the saved states neither", r -> {
            r.busy().noIndex("run", (o, v) -> o.run(v), -1, 2);
            r.append(';');
            r.noArgument("run(0)", o -> o.run(0));
            r.same("the buffer stays", 11, r.clearBuffer());
        });
    }

    // ---- promise 16

    private static void undo() {
        Bounds.test("IllegalStateException if there is none: of a new object",
            r -> r.noState("undo()", o -> o.undo()));
        Bounds.test("IllegalStateException if there is none: behind the last one", r -> {
            r.set(0, 7);
            r.same("undo()", 0, r.undo());
            r.noState("undo()", o -> o.undo());
            r.same("setting(0)", 2, r.setting(0));
        });
        Bounds.test("at most 6 states are saved: the sixth", r -> {
            for (int i = 1; i <= 6; i++) {
                r.set(0, 10 + i);
                r.sameCounts("saved", 18, i);
            }
            for (int i = 5; i >= 0; i--) {
                r.same("undo()", i, r.undo());
                r.same("setting(0)", i == 0 ? 2 : 10 + i, r.setting(0));
            }
            r.noState("undo()", o -> o.undo());
        });
        Bounds.test("at most 6 states are saved; the oldest one is dropped first: by the seventh", r -> {
            for (int i = 1; i <= 7; i++) {
                r.set(0, 10 + i);
            }
            r.sameCounts("saved", 18, 6);
            for (int i = 6; i >= 1; i--) {
                r.same("undo()", i - 1, r.undo());
                r.same("setting(0)", 10 + i, r.setting(0));
            }
            r.noState("undo()", o -> o.undo());
        });
        Bounds.test("the oldest one is dropped first: by each of many", r -> {
            for (int i = 1; i <= 20; i++) {
                r.pass(i);
            }
            r.sameCounts("saved", 18, 6);
            for (int i = 19; i >= 14; i--) {
                r.undo();
                r.sameCounts("behind undo", 0, i * (i + 1) / 2);
            }
            r.noState("undo()", o -> o.undo());
        });
        Bounds.test("behind an undo there is room for one more, and none is dropped", r -> {
            for (int i = 1; i <= 7; i++) {
                r.set(0, 10 + i);
            }
            r.undo();
            r.undo();
            r.set(0, 1);
            r.set(0, 3);
            r.sameCounts("saved", 18, 6);
            int[] due = {1, 15, 14, 13, 12, 11};
            for (int i = 0; i < due.length; i++) {
                r.same("undo()", 5 - i, r.undo());
                r.same("setting(0)", due[i], r.setting(0));
            }
            r.noState("undo()", o -> o.undo());
        });
        Bounds.test("undo is not undoable: what it took back is gone", r -> {
            r.set(0, 5);
            r.set(0, 6);
            r.undo();
            r.sameCounts("saved", 18, 1);
            r.undo();
            r.same("setting(0)", 2, r.setting(0));
        });
        Bounds.test("a refused undo changes nothing", r -> {
            r.busy();
            for (int i = 0; i < 6; i++) {
                r.undo();
            }
            r.noState("undo()", o -> o.undo());
        });
    }

    private static void undoOfBuffer() {
        Bounds.test("all but the buffer: what was appended stays", r -> {
            r.type("ab");
            r.set(0, 5);
            r.type("cd");
            r.undo();
            r.same("clearBuffer()", 4, r.clearBuffer());
        });
        Bounds.test("all but the buffer: what was cleared stays clear", r -> {
            r.type("ab");
            r.set(0, 5);
            r.clearBuffer();
            r.undo();
            r.same("clearBuffer()", 0, r.clearBuffer());
        });
        Bounds.test("all but the buffer: what run cleared stays clear", r -> {
            r.calm().type("t1");
            r.run(0);
            r.undo();
            r.sameCounts("behind undo", 0, 0);
            r.same("clearBuffer()", 0, r.clearBuffer());
        });
        Bounds.test("all but the saved states: they are those from before the undone call", r -> {
            r.pass(1);
            r.pass(2);
            r.pass(3);
            r.undo();
            r.sameCounts("saved", 18, 2);
            r.undo();
            r.undo();
            r.sameCounts("behind undo", 0, 0, 18, 0);
        });
        Bounds.test("all: what the busiest state has", r -> {
            r.busy();
            r.undo();
            long before = r.digest();
            r.pass(100);
            r.same("undo()", 5, r.undo());
            r.same("digest()", before, r.digest());
        });
    }

    // ---- what is saved

    /** A state, and a call whose undo must restore all of it; the undo ahead makes room for one saved state. */
    private static void restores(String told, Consumer<Run> state, Consumer<Run> change) {
        Bounds.test("saves the state from before it: " + told, r -> {
            state.accept(r);
            r.set(7, 1);
            r.undo();
            int saved = r.count(18);
            long before = r.digest();
            change.accept(r);
            r.same("saved states", saved + 1, r.count(18));
            r.same("undo()", saved, r.undo());
            r.same("digest()", before, r.digest());
        });
    }

    private static void restoresEach() {
        restores("addTenant", r -> r.busy(), r -> r.addTenant(5));
        restores("addInsurer", r -> r.busy(), r -> r.addInsurer(5, 6, 7));
        for (int i = 0; i < 8; i++) {
            int setting = i;
            restores("set of " + setting, r -> r.busy(), r -> r.set(setting, 9));
        }
        restores("lease", r -> r.busy(), r -> r.lease(40, 1, 9));
        restores("insure", r -> r.busy(), r -> r.insure(20, 1, 9));
        restores("renew", r -> r.busy(), r -> r.renew(9));
        restores("write", r -> r.busy(), r -> r.write(20, false));
        restores("a write that overwrites", r -> r.busy(), r -> r.write(4, true));
        restores("a write that disturbs", r -> {
            r.calm().ones(0, 1, 8);
            r.set(5, 100);
        }, r -> r.write(0, true));
        restores("read", r -> r.busy(), r -> r.read(20));
        restores("writeBack", r -> r.busy(), r -> r.writeBack());
        restores("a writeBack of a weak core", r -> {
            r.busy();
            r.set(4, 100);
        }, r -> r.writeBack());
        restores("pass", r -> r.busy(), r -> r.pass(1));
        restores("pass of so many ticks that all ends", r -> r.busy(), r -> r.pass(100));
        restores("run", r -> r.busy().clearBuffer(), r -> {
            r.type("w24=0;b;t3;r24;t9;b");
            r.run(0);
        });
        Bounds.test("saves the state from before it: how long a policy and a lease went on that have ended since", r -> {
            r.calm().lease(0, 0, 9);
            r.insure(0, 0, 4);
            r.pass(9);
            r.lease(0, 1, 50);
            r.insure(0, 0, 30);
            r.undo();
            r.undo();
            r.undo();
            r.sameCore("behind undo", 0, 0, 100, 0, 9, 0, 4);
            r.pass(3);
            r.sameCore("in the last tick of the policy", 0, 0, 100, 0, 6, 0, 1);
            r.pass(1);
            r.sameCore("behind it", 0, 0, 100, 0, 5, -1, 0);
            r.pass(5);
            r.sameCore("behind the lease", 0, 0, 100, -1, 0, -1, 0);
        });
        Bounds.test("saves the state from before it: the order of the write-backs", r -> {
            r.calm().ones(5, 3, 4);
            r.read(5);
            r.read(3);
            r.read(4);
            r.write(5, true);
            r.read(5);
            r.same("owed(2, 0)", 5, r.owed(2, 0));
            r.undo();
            r.undo();
            r.same("owed(0, 0)", 5, r.owed(0, 0));
            r.same("owed(1, 0)", 3, r.owed(1, 0));
            r.same("owed(2, 0)", 4, r.owed(2, 0));
        });
    }

    /** The tenants 0 and 1 have a bit each on the cores 1 and 2 with policies; setting 5 is such that all are lost. */
    private static Run insured(Run r, int fund) {
        r.calm().addInsurer(fund, 1, 500);
        r.lease(7, 0, 50);
        for (int core = 1; core <= 2; core++) {
            r.lease(core, core - 1, 50);
            r.write(core, true);
            r.insure(core, 1, 20);
        }
        r.set(5, 100);
        return r;
    }

    private static void restoresClaims() {
        restores("claims that are paid", r -> insured(r, 10000), r -> r.write(7, false));
        restores("claims that wait", r -> insured(r, 0), r -> r.write(7, false));
        restores("a claim that is paid and one that waits", r -> insured(r, 500), r -> r.write(7, false));
        restores("claims that a premium pays", r -> {
            insured(r, 996).write(7, false);
            r.lease(40, 0, 200);
        }, r -> r.insure(40, 1, 200));
        Bounds.test("saves the state from before it: the claims wait again, in their order", r -> {
            // The fund is 497 with both premiums; those of 40 and 41 are 3 each.
            insured(r, 495).write(7, false);
            r.lease(40, 0, 200);
            r.lease(41, 0, 200);
            r.same("insure(40, 1, 200)", 3, r.insure(40, 1, 200));
            r.same("tenant(0, 4)", 500, r.tenant(0, 4));
            r.same("tenant(1, 5)", 1, r.tenant(1, 5));
            r.undo();
            r.same("tenant(0, 4)", 0, r.tenant(0, 4));
            r.same("tenant(0, 5)", 1, r.tenant(0, 5));
            r.same("tenant(1, 5)", 1, r.tenant(1, 5));
            r.same("insurer(1, 4)", 0, r.insurer(1, 4));
            r.same("insurer(1, 5)", 2, r.insurer(1, 5));
            r.insure(41, 1, 200);
            r.same("tenant(0, 4)", 500, r.tenant(0, 4));
            r.same("tenant(1, 4)", 0, r.tenant(1, 4));
            r.same("tenant(1, 5)", 1, r.tenant(1, 5));
        });
    }

    private static void savesEvenIfNothingChanges() {
        Bounds.test("also if it changes nothing: set to the same value", r -> {
            r.set(0, 2);
            r.sameCounts("saved", 18, 1);
        });
        Bounds.test("also if it changes nothing: renew of a new core for nothing", r -> {
            r.set(7, 0);
            r.renew(0);
            r.sameCounts("saved", 18, 2);
        });
        Bounds.test("each undoable call saves one state", r -> {
            r.addTenant(1000);
            r.addInsurer(0, 1, 1);
            r.lease(0, 0, 9);
            r.insure(0, 0, 9);
            r.renew(1);
            r.write(0, true);
            r.sameCounts("six", 18, 6);
            while (r.count(18) > 2) {
                r.undo();
            }
            r.lease(0, 0, 9);
            r.write(0, true);
            r.undo();
            r.write(0, true);
            r.sameCounts("lease, write", 18, 4);
            r.read(0);
            r.sameCounts("read", 18, 5);
            r.writeBack();
            r.sameCounts("writeBack", 18, 6);
            r.undo();
            r.undo();
            r.pass(1);
            r.sameCounts("pass", 18, 5);
            r.type("t1");
            r.run(0);
            r.sameCounts("run", 18, 6);
        });
        Bounds.test("a call that throws saves no state, with room for one and without", r -> {
            r.noState("read(0)", o -> o.read(0));
            r.noArgument("pass(0)", o -> o.pass(0));
            r.noIndex("set(8, 0)", o -> o.set(8, 0));
            r.busy().sameCounts("saved", 18, 6);
            r.noState("read(40)", o -> o.read(40));
            r.noArgument("pass(0)", o -> o.pass(0));
            r.noIndex("set(8, 0)", o -> o.set(8, 0));
        });
    }
}

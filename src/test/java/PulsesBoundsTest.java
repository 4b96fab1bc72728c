/** Boundary cases of the promises 8 to 11, and of "Terms", a tick: write, read, writeBack, pass. */
public final class PulsesBoundsTest {

    public static void main(String[] args) {
        Bounds.promise("promise 8, write");
        write();
        Bounds.promise("promise 9, read");
        read();
        Bounds.promise("promise 10, writeBack");
        writeBack();
        Bounds.promise("promise 11, pass");
        pass();
        passTheLimit();
        Bounds.promise("Terms, a tick");
        tickCools();
        tickDelays();
        tickEnds();
        tickDrops();
        Bounds.end();
    }

    // ---- promise 8

    private static void write() {
        Bounds.test("core: 0 is the least, 63 the greatest", r -> {
            r.calm().lease(0, 0, 1);
            r.lease(63, 0, 1);
            r.same("write(0, true)", 1, r.write(0, true));
            r.same("write(63, true)", 1, r.write(63, true));
            r.sameCounts("both", 7, 2);
        });
        Bounds.test("IndexOutOfBoundsException if there is no such core, ahead of IllegalStateException", r -> {
            r.calm().noIndex("write(v, true)", (o, v) -> o.write(v, true), -1, 64);
            r.noIndex("write(v, false)", (o, v) -> o.write(v, false), -1, 64);
        });
        Bounds.test("IllegalStateException if the core is not leased", r -> {
            r.calm().noState("write(0, true)", o -> o.write(0, true));
            r.noState("write(0, false)", o -> o.write(0, false));
        });
        Bounds.test("up to the last tick of its lease, not behind it", r -> {
            r.calm().lease(0, 0, 2);
            r.pass(1);
            r.same("write(0, true)", 1, r.write(0, true));
            r.pass(1);
            r.noState("write(0, true)", o -> o.write(0, true));
        });
        Bounds.test("a refused write changes nothing, the saved states neither", r -> {
            r.busy().noIndex("write(v, true)", (o, v) -> o.write(v, true), -1, 64);
            r.noState("write(40, true)", o -> o.write(40, true));
        });
        Bounds.test("undoable, also a write of the bit that is there", r -> {
            r.calm().one(0);
            r.write(0, true);
            r.undo();
            r.sameCore("behind undo", 0, 1, 99);
            r.undo();
            r.sameCore("behind the second undo", 0, 0, 100);
        });
    }

    // ---- promise 9

    private static void read() {
        Bounds.test("core: 0 is the least, 63 the greatest", r -> {
            r.calm().ones(0, 63);
            r.same("read(0)", 1, r.read(0));
            r.same("read(63)", 1, r.read(63));
            r.sameCounts("both", 8, 2, 9, 2);
        });
        Bounds.test("IndexOutOfBoundsException if there is no such core, ahead of IllegalStateException",
            r -> r.calm().noIndex("read", (o, v) -> o.read(v), -1, 64));
        Bounds.test("IllegalStateException if the core is not leased", r -> {
            r.calm().noState("read(0)", o -> o.read(0));
            r.lease(0, 0, 2);
            r.write(0, true);
            r.pass(2);
            r.noState("read(0) behind its lease", o -> o.read(0));
        });
        Bounds.test("up to the last tick of its lease", r -> {
            r.calm().lease(0, 0, 2);
            r.write(0, true);
            r.pass(1);
            r.same("read(0)", 1, r.read(0));
        });
        Bounds.test("IllegalStateException if a write-back is owed for it, until it is done", r -> {
            r.calm().ones(0, 1);
            r.read(0);
            r.noState("read(0)", o -> o.read(0));
            r.same("read(1)", 1, r.read(1));
            r.writeBack();
            r.same("read(0)", 1, r.read(0));
        });
        Bounds.test("IllegalStateException if a write-back is owed for it, up to the time at which it is due", r -> {
            r.calm().one(0);
            r.read(0);
            r.pass(5);
            r.noState("read(0)", o -> o.read(0));
            r.pass(1);
            r.same("read(0) of a bit that is lost", 0, r.read(0));
        });
        Bounds.test("IllegalStateException if a write-back is owed for it, not if it was overwritten", r -> {
            r.calm().one(0);
            r.read(0);
            r.write(0, false);
            r.same("read(0)", 0, r.read(0));
        });
        Bounds.test("a refused read changes nothing, the saved states neither", r -> {
            r.busy().noIndex("read", (o, v) -> o.read(v), -1, 64);
            r.noState("read(40) of a core that is not leased", o -> o.read(40));
            r.noState("read(4) of a core with a write-back", o -> o.read(4));
        });
        Bounds.test("undoable, also a read of a 0", r -> {
            r.calm().lease(0, 0, 9);
            r.read(0);
            r.undo();
            r.sameCore("behind undo", 0, 0, 100);
            r.sameCounts("behind undo", 8, 0);
        });
    }

    // ---- promise 10

    private static void writeBack() {
        Bounds.test("IllegalStateException if none is owed: none was read", r -> {
            r.calm().one(0);
            r.noState("writeBack()", o -> o.writeBack());
        });
        Bounds.test("IllegalStateException if none is owed: the last one was done", r -> {
            r.calm().ones(0, 1);
            r.read(0);
            r.read(1);
            r.same("writeBack()", 0, r.writeBack());
            r.same("writeBack()", 1, r.writeBack());
            r.noState("writeBack()", o -> o.writeBack());
        });
        Bounds.test("IllegalStateException if none is owed: it was overwritten, late or dropped", r -> {
            r.calm().ones(0, 1);
            r.lease(2, 0, 3);
            r.write(2, true);
            r.read(0);
            r.read(1);
            r.read(2);
            r.write(0, false);
            r.pass(6);
            r.sameCounts("each once", 12, 1, 14, 1, 15, 1);
            r.noState("writeBack()", o -> o.writeBack());
        });
        Bounds.test("a refused writeBack changes nothing, the saved states neither", r -> {
            r.busy();
            while (r.count(6) > 0) {
                r.writeBack();
            }
            r.noState("writeBack()", o -> o.writeBack());
        });
        Bounds.test("its core: 0, and 63", r -> {
            r.calm().ones(63, 0);
            r.read(63);
            r.read(0);
            r.same("writeBack()", 63, r.writeBack());
            r.same("writeBack()", 0, r.writeBack());
        });
        Bounds.test("at the time at which it is due it can be done still", r -> {
            r.calm().one(0);
            r.read(0);
            r.pass(5);
            r.same("writeBack()", 0, r.writeBack());
            r.sameCounts("in time", 10, 1, 12, 0);
        });
        Bounds.test("undoable", r -> {
            r.calm().one(0);
            r.read(0);
            r.writeBack();
            r.undo();
            r.sameCore("behind undo", 0, 0, 98, 0, 200, -1, 0, 1, 5, 0);
            r.sameCounts("behind undo", 10, 0);
            r.same("writeBack()", 0, r.writeBack());
        });
    }

    // ---- promise 11

    private static void pass() {
        Bounds.test("ticks: 1 is the least", r -> {
            r.pass(1);
            r.sameCounts("time", 0, 1);
        });
        Bounds.test("ticks: 100 is the greatest", r -> {
            r.pass(100);
            r.sameCounts("time", 0, 100);
        });
        Bounds.test("IllegalArgumentException if ticks is out of range",
            r -> r.noArgument("pass", (o, v) -> o.pass(v), -1, 0, 101));
        Bounds.test("a refused pass changes nothing, the saved states neither",
            r -> r.busy().noArgument("pass", (o, v) -> o.pass(v), -1, 0, 101));
        Bounds.test("undoable, as one call", r -> {
            r.calm().one(0);
            r.read(0);
            r.pass(100);
            r.same("undo()", 5, r.undo());
            r.sameCounts("behind undo", 0, 0, 6, 1, 12, 0);
        });
    }

    private static void passTheLimit() {
        Bounds.test("the time may become 10000", r -> {
            r.late(9900);
            r.pass(100);
            r.sameCounts("time", 0, 10000);
        });
        Bounds.test("IllegalStateException if the time would be above 10000, by one", r -> {
            r.late(9901);
            r.noState("pass(100)", o -> o.pass(100));
            r.pass(99);
            r.sameCounts("time", 0, 10000);
        });
        Bounds.test("IllegalStateException if the time would be above 10000, from 10000 on", r -> {
            r.late(10000);
            r.noState("pass(1)", o -> o.pass(1));
            r.noState("pass(100)", o -> o.pass(100));
        });
        Bounds.test("IllegalArgumentException ahead of IllegalStateException", r -> {
            r.late(10000);
            r.noArgument("pass", (o, v) -> o.pass(v), -1, 0, 101);
        });
        Bounds.test("a pass that is refused at the limit changes nothing, the saved states neither", r -> {
            r.late(9995);
            r.busy();
            r.noState("pass(3)", o -> o.pass(3));
        });
        Bounds.test("undo makes room for ticks again", r -> {
            r.late(10000);
            r.undo();
            r.sameCounts("time", 0, 9900);
            r.pass(1);
            r.sameCounts("time", 0, 9901);
        });
    }

    // ---- a tick, 1 and 2: time and heat

    private static void tickCools() {
        int[][] rows = {{10, 10, 0}, {9, 10, 0}, {11, 10, 1}, {100, 10, 90}, {5, 0, 5}, {1, 1, 0}, {0, 10, 0}, {2, 1, 1}};
        for (int[] row : rows) {
            Bounds.test("a heat of " + row[0] + " with a cooling of " + row[1] + ", at least 0", r -> {
                r.calm().heatTo(row[0]);
                r.set(6, row[1]);
                r.same("pass(1)", row[2], r.pass(1));
                r.sameCounts("behind it", 0, 1, 1, row[2]);
            });
        }
        Bounds.test("each tick cools, and the last one to 0", r -> {
            r.calm().heatTo(100);
            r.set(6, 1);
            r.same("pass(99)", 1, r.pass(99));
            r.same("pass(1)", 0, r.pass(1));
            r.same("pass(1)", 0, r.pass(1));
        });
    }

    // ---- a tick, 3: write-backs that are due

    private static void tickDelays() {
        for (int patience : new int[] {0, 1, 50}) {
            Bounds.test("due at the present time, not less: it is owed still, with a patience of " + patience, r -> {
                r.calm().one(0);
                r.set(3, patience);
                r.pass(3);
                r.read(0);
                if (patience > 0) {
                    r.pass(patience);
                }
                r.sameCounts("at the due time", 0, 3 + patience, 6, 1, 12, 0);
                r.same("core(0, 8)", 0, r.core(0, 8));
            });
            Bounds.test("due at a time less than the present one, by one, with a patience of " + patience, r -> {
                r.calm().one(0);
                r.set(3, patience);
                r.pass(3);
                r.read(0);
                r.pass(patience + 1);
                r.sameCounts("behind the due time", 6, 0, 12, 1, 7, 0);
                r.sameCore("behind the due time", 0, 0, 98, 0, 200 - 4 - patience, -1, 0, 0, -1, 1);
                r.same("tenant(0, 3)", 1, r.tenant(0, 3));
            });
        }
        Bounds.test("of several the late ones alone", r -> {
            r.calm().ones(0, 1, 2);
            for (int core = 0; core < 3; core++) {
                r.set(3, 4 - core);
                r.read(core);
            }
            r.pass(3);
            r.sameCounts("one is late", 6, 2, 12, 1);
            r.same("core(2, 8)", 1, r.core(2, 8));
            r.same("owed(0, 0)", 1, r.owed(0, 0));
            r.same("owed(1, 0)", 0, r.owed(1, 0));
            r.pass(2);
            r.sameCounts("all are late", 6, 0, 12, 3);
        });
        Bounds.test("all 64 may be late in one tick", r -> {
            r.calm().allOnes();
            for (int core = 0; core < 64; core++) {
                r.read(core);
            }
            r.pass(5);
            r.sameCounts("in time", 6, 64, 12, 0);
            r.pass(1);
            r.sameCounts("late", 6, 0, 12, 64);
            r.same("tenant(0, 3)", 64, r.tenant(0, 3));
            r.same("owed(0, 0)", CoreLeases.NONE, r.owed(0, 0));
        });
        Bounds.test("each tick of a pass is one: what it ends is not late or insured in a later one", r -> {
            r.calm().ones(0, 1, 2);
            r.lease(3, 1, 3);
            r.write(3, true);
            r.insure(1, 0, 6);
            r.insure(2, 0, 5);
            for (int core = 1; core <= 3; core++) {
                r.read(core);
            }
            r.pass(100);
            // The write-backs were due at 5: in the sixth tick a policy of 6 ticks stood still, one of 5 had ended.
            r.sameCounts("behind it", 12, 2, 15, 1);
            r.same("claims", 1, r.insurer(0, 5) + r.insurer(0, 4));
            r.same("core(3, 8)", 0, r.core(3, 8));
        });
        Bounds.test("no pulse comes with a loss by delay", r -> {
            r.calm().ones(0, 1);
            r.read(0);
            r.set(5, 100);
            r.set(1, 20);
            r.set(2, 20);
            r.pass(6);
            r.sameCore("late", 0, 0, 98);
            r.sameCore("its neighbor", 1, 1, 99);
            r.sameCounts("no heat", 1, 0);
        });
    }

    // ---- a tick, 4: policies and leases

    private static void tickEnds() {
        Bounds.test("policies and leases whose ticks have passed end, in the very tick", r -> {
            r.calm();
            for (int core = 0; core < 4; core++) {
                r.lease(core, 0, 3 + core);
                r.insure(core, 0, 2 + core);
            }
            int[] policies = {4, 3, 2, 1, 0, 0};
            int[] leases = {4, 4, 3, 2, 1, 0};
            for (int i = 0; i < 6; i++) {
                r.pass(1);
                r.sameCounts("in tick " + (i + 1), 5, policies[i], 4, leases[i]);
            }
        });
        Bounds.test("ticks that passed ahead of the lease do not count", r -> {
            r.calm().pass(100);
            r.lease(0, 0, 2);
            r.pass(1);
            r.lease(1, 0, 2);
            r.insure(1, 0, 2);
            r.same("core(0, 3)", 1, r.core(0, 3));
            r.same("core(1, 3)", 2, r.core(1, 3));
            r.same("core(1, 5)", 2, r.core(1, 5));
            r.pass(1);
            r.sameCounts("one is left", 4, 1, 5, 1);
            r.pass(1);
            r.sameCounts("none is left", 4, 0, 5, 0);
        });
        Bounds.test("all 64 may end in one tick", r -> {
            r.calm();
            for (int core = 0; core < 64; core++) {
                r.lease(core, 0, 7);
                r.insure(core, 0, 7);
            }
            r.pass(6);
            r.sameCounts("ahead of it", 4, 64, 5, 64);
            r.pass(1);
            r.sameCounts("behind it", 4, 0, 5, 0);
        });
        Bounds.test("at the end of the time a lease can end too", r -> {
            r.late(9999);
            r.calm().lease(0, 0, 1);
            r.lease(1, 0, 2);
            r.pass(1);
            r.sameCounts("behind it", 4, 1);
        });
    }

    private static void tickDrops() {
        Bounds.test("a write-back owed for a core whose lease ends is dropped, not lost", r -> {
            r.calm().lease(0, 0, 3);
            r.write(0, true);
            r.read(0);
            r.pass(2);
            r.sameCounts("ahead of it", 6, 1, 15, 0);
            r.pass(1);
            r.sameCounts("behind it", 6, 0, 12, 0, 15, 1);
            r.sameCore("behind it", 0, 0, 98, -1, 0, -1, 0, 0, -1, 0);
            r.same("tenant(0, 3)", 0, r.tenant(0, 3));
        });
        Bounds.test("due at the present time when the lease ends: dropped", r -> {
            r.calm().lease(0, 0, 5);
            r.write(0, true);
            r.read(0);
            r.pass(5);
            r.sameCounts("behind it", 6, 0, 12, 0, 15, 1);
        });
        Bounds.test("late in the tick in which the lease ends: lost by delay, since 3 is ahead of 4", r -> {
            r.calm().lease(0, 0, 6);
            r.write(0, true);
            r.read(0);
            r.pass(6);
            r.sameCounts("behind it", 6, 0, 12, 1, 15, 0);
            r.same("tenant(0, 3)", 1, r.tenant(0, 3));
        });
        Bounds.test("if none is owed, none is dropped", r -> {
            r.calm().one(1);
            r.read(1);
            r.lease(0, 0, 3);
            r.write(0, true);
            r.pass(3);
            r.sameCounts("behind it", 4, 1, 6, 1, 15, 0);
            r.same("core(0, 0)", 1, r.core(0, 0));
        });
        Bounds.test("all 64 may be dropped in one tick", r -> {
            r.calm();
            for (int core = 0; core < 64; core++) {
                r.lease(core, core % 2, 3);
                r.write(core, true);
                r.read(core);
            }
            r.pass(3);
            r.sameCounts("behind it", 6, 0, 12, 0, 15, 64);
        });
    }
}

/** Boundary cases of "What it is" and of "Terms": numbers, cores, pulses. */
public final class CoresBoundsTest {

    private static final int[] HEATS = {0, 24, 25, 49, 50, 74, 75, 99, 100};
    private static final int[] FALLS = {1, 1, 2, 2, 3, 3, 4, 4, 5};

    public static void main(String[] args) {
        Bounds.promise("What it is");
        whatItIs();
        Bounds.promise("Terms, cores");
        sixtyFour();
        strengthFalls();
        strengthEnds();
        disturbs();
        disturbsBelow();
        heats();
        heatEnds();
        writes();
        reads();
        writesBack();
        order();
        Bounds.end();
    }

    // ---- what it is

    private static void whatItIs() {
        Bounds.test("at most 512 calls: the 512th is answered as the first", r -> {
            for (int i = 1; i < Run.MOST_CALLS; i++) {
                r.clearBuffer();
            }
            r.same("digest()", new CoreLeases().digest(), r.digest());
        });
        Bounds.test("at most 512 calls: each may be undoable", r -> {
            for (int i = 1; i <= 509; i++) {
                r.set(0, i % 21);
            }
            r.same("saved states", 6, r.count(18));
            r.same("undo()", 5, r.undo());
            r.same("the 512th call", 508 % 21, r.setting(0));
        });
        Bounds.test("at most 512 calls: as many claims may wait as can come", CoresBoundsTest::mostClaims);
        Bounds.test("at most 512 calls: each may play on all that is owed", r -> {
            r.calm().allOnes();
            for (int core = 0; core < 64; core++) {
                r.read(core);
            }
            while (r.made() < Run.MOST_CALLS) {
                r.same("savable(9)", 54, r.savable(9));
            }
        });
    }

    private static void mostClaims(Run r) {
        r.addTenant(10000);
        r.addInsurer(0, 1, 500);
        r.set(0, 0);
        r.set(1, 0);
        for (int core = 0; core < 64; core++) {
            r.lease(core, 0, 200);
        }
        int claims = 0;
        for (int round = 0; round < 3; round++) {
            r.set(5, 0);
            insured(r, 0, 64);
            r.set(5, 100);
            for (int row = 0; row < 8; row++) {
                r.write(8 * row, true);
            }
            claims += 64;
        }
        r.set(5, 0);
        insured(r, 1, 8);
        r.set(5, 100);
        r.write(0, true);
        claims += 7;
        r.same("claims that wait", claims, r.insurer(0, 5));
        r.same("claims of the tenant that wait", claims, r.tenant(0, 5));
        r.same("fund", claims, r.insurer(0, 0));
        r.same("policies", 0, r.count(5));
        while (r.made() < Run.MOST_CALLS - 1) {
            r.same("claims that were paid", 0, r.insurer(0, 4));
        }
        r.same("the 512th call", claims, r.insurer(0, 5));
    }

    private static void insured(Run r, int from, int to) {
        for (int core = from; core < to; core++) {
            r.write(core, true);
            r.insure(core, 0, 1);
        }
    }

    // ---- the cores and their numbers

    private static void sixtyFour() {
        Bounds.test("there are 64 cores: the first is 0", r -> {
            r.calm().one(0);
            r.same("core(0, 0)", 1, r.core(0, 0));
            r.noIndex("core(-1, 0)", o -> o.core(-1, 0));
        });
        Bounds.test("there are 64 cores: the last is 63", r -> {
            r.calm().one(63);
            r.same("core(63, 0)", 1, r.core(63, 0));
            r.noIndex("core(64, 0)", o -> o.core(64, 0));
        });
        Bounds.test("all 64 cores may be leased, have the bit 1, and be insured", r -> {
            r.calm().allOnes();
            for (int core = 0; core < 64; core++) {
                r.insure(core, 0, 1);
            }
            r.sameCounts("full", 4, 64, 5, 64, 7, 64);
            r.same("tenant(0, 1)", 64, r.tenant(0, 1));
            r.same("tenant(0, 2)", 64, r.tenant(0, 2));
            r.same("insurer(0, 3)", 64, r.insurer(0, 3));
        });
        for (int[] place : new int[][] {{0, 0, 0}, {0, 7, 7}, {1, 0, 8}, {7, 0, 56}, {7, 7, 63}, {4, 3, 35}}) {
            Bounds.test("8 * row + column is the number of row " + place[0] + ", column " + place[1], r -> {
                r.calm().lease(place[2], 0, 1);
                r.type("w" + place[0] + place[1] + "=1");
                r.same("run(0)", 1, r.run(0));
                r.same("its bit", 1, r.core(place[2], 0));
                r.sameCounts("run", 7, 1);
            });
        }
    }

    // ---- a pulse, 1: the strength

    private static void strengthFalls() {
        for (int i = 0; i < HEATS.length; i++) {
            int heat = HEATS[i];
            int then = 100 - FALLS[i];
            Bounds.test("1 + heat / 25, rounded down, by a write in a heat of " + heat, r -> {
                r.calm().lease(0, 0, 9);
                r.heatTo(heat);
                r.set(1, 20);
                r.write(0, true);
                r.same("strength", then, r.core(0, 1));
            });
            Bounds.test("1 + heat / 25, rounded down, by a read in a heat of " + heat, r -> {
                r.calm().lease(0, 0, 9);
                r.heatTo(heat);
                r.set(2, 20);
                r.read(0);
                r.same("strength", then, r.core(0, 1));
            });
            Bounds.test("1 + heat / 25, rounded down, by a write-back in a heat of " + heat, r -> {
                r.calm().one(0);
                r.read(0);
                r.heatTo(heat);
                r.set(1, 20);
                r.writeBack();
                r.same("strength", then - 2, r.core(0, 1));
            });
        }
    }

    private static void strengthEnds() {
        int[] ahead = {6, 5, 4, 1, 0};
        int[] behind = {1, 0, 0, 0, 0};
        for (int i = 0; i < ahead.length; i++) {
            int from = ahead[i];
            int to = behind[i];
            Bounds.test("at least 0: a write that takes 5 from a strength of " + from, r -> {
                r.calm().lease(9, 0, 200);
                r.weaken(9, from);
                r.write(9, true);
                r.same("strength", to, r.core(9, 1));
            });
            Bounds.test("at least 0: a read that takes 5 from a strength of " + from, r -> {
                r.calm().lease(9, 0, 200);
                r.weaken(9, from);
                r.read(9);
                r.same("strength", to, r.core(9, 1));
            });
            Bounds.test("at least 0: a write-back that takes 5 from a strength of " + from, r -> {
                r.calm().lease(9, 0, 200);
                r.weaken(9, from + 5);
                r.read(9);
                r.writeBack();
                r.same("strength", to, r.core(9, 1));
            });
        }
        Bounds.test("the strength of the core alone becomes less", r -> {
            r.calm().lease(9, 0, 1);
            r.write(9, true);
            for (int core = 0; core < 64; core++) {
                r.same("core(" + core + ", 1)", core == 9 ? 99 : 100, r.core(core, 1));
            }
        });
    }

    // ---- a pulse, 2: the disturbed

    private static boolean onLines(int core, int other) {
        return core != other && (core / 8 == other / 8 || core % 8 == other % 8);
    }

    private static void sameLost(Run r, int center) {
        r.sameCounts("behind the pulse", 13, 14);
        for (int core = 0; core < 64; core++) {
            r.same("core(" + core + ", 8)", onLines(core, center) ? 1 : 0, r.core(core, 8));
        }
    }

    private static void disturbs() {
        for (int center : new int[] {0, 7, 56, 63, 3, 24, 36}) {
            Bounds.test("all other cores of its row and column, none else: a write of " + center, r -> {
                r.calm().allOnes();
                r.set(5, 100);
                r.same("write", 1, r.write(center, true));
                sameLost(r, center);
            });
            Bounds.test("all other cores of its row and column, none else: a read of " + center, r -> {
                r.calm().allOnes();
                r.set(5, 100);
                r.same("read", 1, r.read(center));
                sameLost(r, center);
            });
            Bounds.test("all other cores of its row and column, none else: a write-back of " + center, r -> {
                r.calm().allOnes();
                r.read(center);
                r.set(5, 100);
                r.writeBack();
                sameLost(r, center);
            });
        }
        Bounds.test("a core that is disturbed has the bit 1: a 0 is not lost", r -> {
            r.calm().lease(1, 0, 9);
            r.write(1, false);
            r.lease(0, 0, 9);
            r.set(5, 100);
            r.write(0, true);
            r.same("core(1, 8)", 0, r.core(1, 8));
            r.sameCounts("none is lost", 13, 0);
        });
        Bounds.test("a bit that is lost is 0, and not lost again", r -> {
            r.calm().ones(0, 1);
            r.set(5, 100);
            r.write(0, true);
            r.write(0, true);
            r.sameCore("lost once", 1, 0, 99);
            r.same("core(1, 8)", 1, r.core(1, 8));
        });
        Bounds.test("by ascending numbers: the claims come in this order, row and column mixed", CoresBoundsTest::ascending);
        Bounds.test("a bit of a core that is not leased is lost too, by no tenant", r -> {
            r.calm().lease(1, 0, 1);
            r.write(1, true);
            r.pass(1);
            r.lease(0, 1, 9);
            r.set(5, 100);
            r.write(0, true);
            r.same("core(1, 0)", 0, r.core(1, 0));
            r.sameCounts("by disturbing", 13, 1, 7, 1);
            r.same("core(1, 8)", 1, r.core(1, 8));
            r.same("tenant(0, 3)", 0, r.tenant(0, 3));
            r.same("tenant(1, 3)", 0, r.tenant(1, 3));
        });
    }

    private static void ascending(Run r) {
        int[] cores = {3, 24, 31, 35};
        r.addInsurer(500, 1, 500);
        r.set(0, 0);
        r.set(1, 0);
        r.set(5, 0);
        for (int i = 0; i < 4; i++) {
            r.addTenant(1000);
            r.lease(cores[i], i, 9);
            r.write(cores[i], true);
            r.insure(cores[i], 0, 1);
        }
        r.lease(27, 0, 9);
        r.set(5, 100);
        r.write(27, true);
        for (int i = 0; i < 4; i++) {
            r.same("paid to the tenant " + i, i == 0 ? 500 : 0, r.tenant(i, 4));
        }
    }

    private static void disturbsBelow() {
        for (int other : new int[] {1, 8}) {
            Bounds.test("a strength less than setting 5: one less, core " + other, r -> {
                r.calm().ones(0, other);
                r.set(5, 100);
                r.write(0, true);
                r.same("core(other, 8)", 1, r.core(other, 8));
                r.same("core(other, 0)", 0, r.core(other, 0));
            });
            Bounds.test("a strength less than setting 5: just as much, core " + other, r -> {
                r.calm().ones(0, other);
                r.set(5, 99);
                r.write(0, true);
                r.same("core(other, 8)", 0, r.core(other, 8));
                r.same("core(other, 0)", 1, r.core(other, 0));
            });
        }
        Bounds.test("a strength less than setting 5: one less, by a read", r -> {
            r.calm().ones(0, 1);
            r.set(5, 100);
            r.read(0);
            r.sameCounts("read", 13, 1);
        });
        Bounds.test("a strength less than setting 5: just as much, by a read", r -> {
            r.calm().ones(0, 1);
            r.set(5, 99);
            r.read(0);
            r.sameCounts("read", 13, 0);
        });
        Bounds.test("a strength less than setting 5: one less, by a write-back", r -> {
            r.calm().ones(0, 1);
            r.read(0);
            r.set(5, 100);
            r.writeBack();
            r.sameCounts("write-back", 13, 1);
        });
        Bounds.test("a strength less than setting 5: just as much, by a write-back", r -> {
            r.calm().ones(0, 1);
            r.read(0);
            r.set(5, 99);
            r.writeBack();
            r.sameCounts("write-back", 13, 0);
        });
        Bounds.test("a strength less than setting 5: none is less than 0", r -> {
            r.calm().ones(0, 1);
            r.weaken(1, 0);
            r.write(0, true);
            r.same("core(1, 0)", 1, r.core(1, 0));
            r.set(5, 1);
            r.write(0, true);
            r.same("core(1, 0) with setting 5 at 1", 0, r.core(1, 0));
        });
        Bounds.test("all other cores: the core itself is not disturbed by its pulse", r -> {
            r.calm().one(0);
            r.set(5, 100);
            r.same("write", 1, r.write(0, true));
            r.same("read", 1, r.read(0));
            r.writeBack();
            r.same("core(0, 0)", 1, r.core(0, 0));
            r.same("core(0, 8)", 0, r.core(0, 8));
        });
    }

    // ---- a pulse, 3: the heat

    private static void heats() {
        Bounds.test("a write is a pulse with setting 1", r -> {
            r.calm().one(0);
            r.set(1, 20);
            r.write(0, true);
            r.sameCounts("write", 1, 20);
        });
        Bounds.test("a read is a pulse with setting 2", r -> {
            r.calm().one(0);
            r.set(2, 20);
            r.read(0);
            r.sameCounts("read of a 1", 1, 20);
            r.write(0, false);
            r.read(0);
            r.sameCounts("read of a 0", 1, 40);
        });
        Bounds.test("a write-back is a pulse with setting 1", r -> {
            r.calm().one(0);
            r.read(0);
            r.set(1, 20);
            r.writeBack();
            r.sameCounts("write-back", 1, 20);
        });
        Bounds.test("a number of 0: the heat stays", r -> {
            r.calm().one(0);
            r.set(2, 7);
            r.read(0);
            r.set(2, 0);
            r.writeBack();
            r.read(0);
            r.write(0, true);
            r.sameCounts("all three", 1, 7);
        });
    }

    private static void heatEnds() {
        int[][] sums = {{99, 1, 100}, {80, 20, 100}, {79, 20, 99}, {81, 20, 100}, {99, 20, 100}, {100, 1, 100},
            {100, 20, 100}};
        for (int[] sum : sums) {
            String told = "the heat is at most 100: " + sum[0] + " and " + sum[1];
            Bounds.test(told + ", by a write", r -> {
                r.calm().one(0);
                r.heatTo(sum[0]);
                r.set(1, sum[1]);
                r.write(0, true);
                r.sameCounts("write", 1, sum[2]);
            });
            Bounds.test(told + ", by a read", r -> {
                r.calm().one(0);
                r.heatTo(sum[0]);
                r.set(2, sum[1]);
                r.read(0);
                r.sameCounts("read", 1, sum[2]);
            });
            Bounds.test(told + ", by a write-back", r -> {
                r.calm().one(0);
                r.read(0);
                r.heatTo(sum[0]);
                r.set(1, sum[1]);
                r.writeBack();
                r.sameCounts("write-back", 1, sum[2]);
            });
        }
    }

    // ---- writes, reads, write-backs

    private static void writes() {
        Bounds.test("a write: a strength behind the pulse that is just setting 4", r -> {
            r.calm().lease(0, 0, 9);
            r.set(4, 99);
            r.same("write(0, true)", 1, r.write(0, true));
            r.same("core(0, 0)", 1, r.core(0, 0));
        });
        Bounds.test("a write: a strength behind the pulse that is less than setting 4 by one", r -> {
            r.calm().lease(0, 0, 9);
            r.set(4, 100);
            r.same("write(0, true)", 0, r.write(0, true));
            r.same("core(0, 0)", 0, r.core(0, 0));
            r.same("that is no lost bit", 0, r.core(0, 8));
        });
        Bounds.test("a write: a strength of 0 is not less than a setting 4 of 0", r -> {
            r.calm().lease(0, 0, 200);
            r.weaken(0, 0);
            r.same("write(0, true)", 1, r.write(0, true));
            r.set(4, 1);
            r.same("write(0, true) with setting 4 at 1", 0, r.write(0, true));
        });
        Bounds.test("a write of a 0 takes a 1 away, which is not lost", r -> {
            r.calm().one(0);
            r.same("write(0, false)", 0, r.write(0, false));
            r.sameCore("behind it", 0, 0, 98);
            r.same("core(0, 8)", 0, r.core(0, 8));
        });
        for (boolean bit : new boolean[] {false, true}) {
            Bounds.test("a write-back that is owed for the core is overwritten, by a " + bit, r -> {
                r.calm().ones(0, 1);
                r.read(0);
                r.read(1);
                r.write(0, bit);
                r.sameCounts("behind it", 14, 1, 6, 1);
                r.same("the other is owed still", 1, r.owed(0, 0));
                r.same("core(0, 6)", 0, r.core(0, 6));
                r.same("core(0, 7)", CoreLeases.NONE, r.core(0, 7));
                r.same("core(0, 0)", bit ? 1 : 0, r.core(0, 0));
            });
        }
        Bounds.test("a write-back that is owed for the core is overwritten, also if the core is too weak for a 1", r -> {
            r.calm().one(0);
            r.read(0);
            r.set(4, 100);
            r.same("write(0, true)", 0, r.write(0, true));
            r.sameCounts("behind it", 14, 1, 6, 0, 11, 0);
            r.sameCore("behind it", 0, 0, 97, 0, 200, -1, 0, 0, -1, 0);
        });
        Bounds.test("if none is owed for the core, none is overwritten", r -> {
            r.calm().ones(0, 1);
            r.read(1);
            r.write(0, true);
            r.sameCounts("behind it", 14, 0, 6, 1);
        });
    }

    private static void reads() {
        Bounds.test("a read of a 0 destroys nothing, and no write-back is owed", r -> {
            r.calm().lease(0, 0, 9);
            r.same("read(0)", 0, r.read(0));
            r.sameCounts("behind it", 8, 1, 9, 0, 6, 0);
            r.same("core(0, 6)", 0, r.core(0, 6));
        });
        Bounds.test("a read of a 1 destroys it, which is not a lost bit", r -> {
            r.calm().one(0);
            r.same("read(0)", 1, r.read(0));
            r.sameCounts("behind it", 8, 1, 9, 1, 6, 1, 7, 0);
            r.same("core(0, 8)", 0, r.core(0, 8));
        });
        Bounds.test("due at the time + setting 3: the least patience", r -> {
            r.calm().one(0);
            r.set(3, 0);
            r.read(0);
            r.same("core(0, 7)", 0, r.core(0, 7));
            r.same("core(0, 6)", 1, r.core(0, 6));
        });
        Bounds.test("due at the time + setting 3: the greatest patience", r -> {
            r.calm().one(0);
            r.set(3, 50);
            r.pass(7);
            r.read(0);
            r.set(3, 0);
            r.same("core(0, 7)", 57, r.core(0, 7));
        });
        Bounds.test("due at the time + setting 3: beyond the end of the time", r -> {
            r.calm().late(10000);
            r.one(0);
            r.set(3, 50);
            r.read(0);
            r.same("core(0, 7)", 10050, r.core(0, 7));
        });
        Bounds.test("a read of a 0 of a core without strength is a read", r -> {
            r.calm().lease(9, 0, 200);
            r.weaken(9, 0);
            r.write(9, false);
            r.same("read(9)", 0, r.read(9));
            r.sameCounts("behind it", 8, 1, 9, 0);
        });
        Bounds.test("a read does not need the least strength for a 1", r -> {
            r.calm().one(0);
            r.set(4, 100);
            r.same("read(0)", 1, r.read(0));
        });
    }

    private static void writesBack() {
        Bounds.test("a write-back: a strength behind the pulse that is just setting 4", r -> {
            r.calm().one(0);
            r.read(0);
            r.set(4, 97);
            r.writeBack();
            r.sameCore("behind it", 0, 1, 97);
            r.sameCounts("behind it", 10, 1, 11, 0, 6, 0);
        });
        Bounds.test("a write-back: a strength behind the pulse that is less than setting 4 by one", r -> {
            r.calm().one(0);
            r.read(0);
            r.set(4, 98);
            r.writeBack();
            r.sameCore("behind it", 0, 0, 97);
            r.sameCounts("behind it", 10, 0, 11, 1, 6, 0);
            r.same("core(0, 8)", 1, r.core(0, 8));
        });
        Bounds.test("a write-back: a strength of 0 is at least a setting 4 of 0", r -> {
            r.calm().lease(0, 0, 200);
            r.weaken(0, 5);
            r.read(0);
            r.writeBack();
            r.sameCore("behind it", 0, 1, 0);
        });
    }

    // ---- the order of the write-backs

    private static void order() {
        Bounds.test("the earliest due time first: one that came last is the first", r -> {
            r.calm().ones(0, 1, 2);
            r.read(1);
            r.set(3, 6);
            r.read(2);
            r.set(3, 4);
            r.read(0);
            sameOwed(r, 0, 1, 2);
        });
        Bounds.test("the earliest due time first: one that came last is in the middle", r -> {
            r.calm().ones(0, 1, 2);
            r.set(3, 4);
            r.read(2);
            r.set(3, 6);
            r.read(0);
            r.set(3, 5);
            r.read(1);
            sameOwed(r, 2, 1, 0);
        });
        Bounds.test("of several the one that came first, though it came at another time", r -> {
            r.calm().ones(5, 4, 3);
            r.read(5);
            r.pass(1);
            r.set(3, 4);
            r.read(4);
            r.pass(4);
            r.set(3, 0);
            r.read(3);
            sameOwed(r, 5, 4, 3);
        });
        Bounds.test("of several the one that came first: one that was overwritten comes anew", r -> {
            r.calm().ones(0, 1, 2);
            r.read(0);
            r.read(1);
            r.read(2);
            r.write(0, true);
            r.read(0);
            sameOwed(r, 1, 2, 0);
        });
        Bounds.test("of several the one that came first: one that was written back comes anew", r -> {
            r.calm().ones(0, 1, 2);
            r.read(0);
            r.read(1);
            r.writeBack();
            r.read(2);
            r.read(0);
            sameOwed(r, 1, 2, 0);
        });
        Bounds.test("all 64 may be owed, in their order", r -> {
            r.calm().allOnes();
            int[] due = new int[64];
            for (int i = 0; i < 64; i++) {
                int core = i * 13 % 64;
                due[core] = i * 7 % 16;
                r.set(3, due[core]);
                r.read(core);
            }
            r.sameCounts("full", 6, 64);
            int place = 0;
            for (int time = 0; time < 16; time++) {
                for (int i = 0; i < 64; i++) {
                    int core = i * 13 % 64;
                    if (due[core] == time) {
                        r.same("owed(" + place + ", 0)", core, r.owed(place, 0));
                        r.same("owed(" + place + ", 1)", time, r.owed(place, 1));
                        place++;
                    }
                }
            }
            r.noState("read of one that is owed", o -> o.read(63));
        });
    }

    private static void sameOwed(Run r, int... cores) {
        for (int i = 0; i < cores.length; i++) {
            r.same("owed(" + i + ", 0)", cores[i], r.owed(i, 0));
        }
        r.same("owed behind the last", CoreLeases.NONE, r.owed(cores.length, 0));
        for (int core : cores) {
            r.same("writeBack()", core, r.writeBack());
        }
    }
}

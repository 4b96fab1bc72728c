/** Boundary cases of the promises 27 to 32: what reads and write-backs would do, backShare and digest. */
public final class WouldBeBoundsTest {

    public static void main(String[] args) {
        Bounds.promise("promise 27, ifRead");
        ifReadBits();
        ifReadLost();
        ifReadThen();
        ifReadRefused();
        Bounds.promise("promise 28, gentlest");
        gentlestNone();
        gentlest();
        Bounds.promise("promise 29, savable");
        savable();
        savableInTime();
        savableElse();
        savableRefused();
        Bounds.promise("promise 30, atRisk");
        atRisk();
        atRiskRefused();
        Bounds.promise("promise 31, backShare");
        backShare();
        Bounds.promise("promise 32, digest");
        digest();
        digestOfEach();
        Bounds.end();
    }

    private static final int NONE = CoreLeases.NONE;

    // ---- promise 27

    private static void ifReadBits() {
        Bounds.test("0: the bit that would be read, of a 1 and of a 0", r -> {
            r.calm().one(0);
            r.same("ifRead(0, 0)", 1, r.ifRead(0, 0));
            r.same("ifRead(1, 0)", 0, r.ifRead(1, 0));
        });
        Bounds.test("0: if a write-back is owed for it, its bit is 0", r -> {
            r.calm().one(0);
            r.read(0);
            r.same("ifRead(0, 0)", 0, r.ifRead(0, 0));
            r.writeBack();
            r.same("ifRead(0, 0)", 1, r.ifRead(0, 0));
        });
        Bounds.test("whether it can be read does not matter: a 1 of a core that is not leased", r -> {
            r.calm().lease(0, 0, 1);
            r.write(0, true);
            r.pass(1);
            r.same("ifRead(0, 0)", 1, r.ifRead(0, 0));
            r.same("ifRead(0, 3)", 98, r.ifRead(0, 3));
        });
        Bounds.test("0: the bit of a weak core, too", r -> {
            r.calm().one(0);
            r.set(4, 100);
            r.set(5, 100);
            r.same("ifRead(0, 0)", 1, r.ifRead(0, 0));
        });
    }

    private static void ifReadLost() {
        Bounds.test("1: how many bits would be lost: none", r -> {
            r.calm().ones(0, 9);
            r.set(5, 100);
            r.same("ifRead(0, 1)", 0, r.ifRead(0, 1));
            r.same("ifRead(9, 1)", 0, r.ifRead(9, 1));
        });
        Bounds.test("1: how many bits would be lost: 14 at most, of every core", r -> {
            r.calm().allOnes();
            r.set(5, 100);
            for (int core = 0; core < 64; core++) {
                r.same("ifRead(" + core + ", 1)", 14, r.ifRead(core, 1));
            }
        });
        Bounds.test("1: a strength less than setting 5, by one, and just as much", r -> {
            r.calm().ones(0, 1);
            r.set(5, 100);
            r.same("ifRead(0, 1) with 100", 1, r.ifRead(0, 1));
            r.set(5, 99);
            r.same("ifRead(0, 1) with 99", 0, r.ifRead(0, 1));
        });
        Bounds.test("1: bits of cores that are not leased would be lost too", r -> {
            r.calm().lease(1, 0, 1);
            r.write(1, true);
            r.pass(1);
            r.set(5, 100);
            r.same("ifRead(0, 1)", 1, r.ifRead(0, 1));
            r.same("ifRead(0, 4)", 0, r.ifRead(0, 4));
        });
        Bounds.test("1: the bit that the read destroys is not lost, nor one that is read already", r -> {
            r.calm().ones(0, 1);
            r.read(1);
            r.set(5, 100);
            r.same("ifRead(0, 1)", 0, r.ifRead(0, 1));
        });
        Bounds.test("4: of the bits that would be lost, all and none have a policy", r -> {
            r.calm().allOnes();
            r.set(5, 100);
            r.same("ifRead(27, 4)", 0, r.ifRead(27, 4));
            for (int i = 0; i < 8; i++) {
                r.insure(24 + i, 0, 1);
                if (i != 3) {
                    r.insure(8 * i + 3, 0, 1);
                }
            }
            r.same("ifRead(27, 4)", 14, r.ifRead(27, 4));
            r.same("ifRead(0, 4)", 2, r.ifRead(0, 4));
        });
        Bounds.test("4: policies of every tenant with every insurer", r -> {
            r.calm().addInsurer(0, 1, 1);
            r.addInsurer(0, 1, 1);
            for (int i = 1; i <= 6; i++) {
                r.lease(i, i % 2, 9);
                r.write(i, true);
                r.insure(i, i % 3, 9);
            }
            r.set(5, 100);
            r.same("ifRead(0, 1)", 6, r.ifRead(0, 1));
            r.same("ifRead(0, 4)", 6, r.ifRead(0, 4));
        });
        Bounds.test("4: a policy of a bit that would stay does not count", r -> {
            r.calm().ones(0, 1);
            r.insure(1, 0, 9);
            r.same("ifRead(0, 4)", 0, r.ifRead(0, 4));
            r.write(1, false);
            r.set(5, 100);
            r.same("ifRead(0, 4) of a 0", 0, r.ifRead(0, 4));
        });
    }

    private static void ifReadThen() {
        int[][] heats = {{0, 0, 0}, {0, 20, 20}, {80, 20, 100}, {81, 20, 100}, {79, 20, 99}, {100, 20, 100}, {100, 0, 100}};
        for (int[] row : heats) {
            Bounds.test("2: the heat then, at most 100: " + row[0] + " and " + row[1], r -> {
                r.calm().heatTo(row[0]);
                r.set(2, row[1]);
                r.same("ifRead(0, 2)", row[2], r.ifRead(0, 2));
            });
        }
        int[][] falls = {{24, 99}, {25, 98}, {49, 98}, {50, 97}, {74, 97}, {75, 96}, {99, 96}, {100, 95}};
        for (int[] row : falls) {
            Bounds.test("3: the strength then, in a heat of " + row[0], r -> {
                r.calm().heatTo(row[0]);
                r.set(2, 20);
                r.same("ifRead(0, 3)", row[1], r.ifRead(0, 3));
            });
        }
        for (int strength : new int[] {6, 5, 4, 0}) {
            Bounds.test("3: the strength then, at least 0, from " + strength, r -> {
                r.calm().lease(0, 0, 200);
                r.weaken(0, strength);
                r.same("ifRead(0, 3)", Math.max(0, strength - 5), r.ifRead(0, 3));
            });
        }
        Bounds.test("it is what read then does", r -> {
            r.calm().ones(0, 1, 2, 8);
            r.heatTo(60);
            r.set(2, 13);
            r.set(5, 100);
            int lost = r.ifRead(0, 1);
            int heat = r.ifRead(0, 2);
            int strength = r.ifRead(0, 3);
            r.same("read(0)", r.ifRead(0, 0), r.read(0));
            r.sameCounts("then", 13, lost, 1, heat);
            r.same("core(0, 1)", strength, r.core(0, 1));
            r.same("lost", 3, lost);
        });
    }

    private static void ifReadRefused() {
        Bounds.test("core: 0 is the least, 63 the greatest; what: 0 is the least, 4 the greatest", r -> {
            r.same("ifRead(0, 0)", 0, r.ifRead(0, 0));
            r.same("ifRead(63, 0)", 0, r.ifRead(63, 0));
            r.same("ifRead(63, 3)", 99, r.ifRead(63, 3));
            r.same("ifRead(63, 4)", 0, r.ifRead(63, 4));
        });
        Bounds.test("IndexOutOfBoundsException if there is no such core",
            r -> r.busy().noIndex("ifRead(v, 0)", (o, v) -> o.ifRead(v, 0), -1, 64));
        Bounds.test("IllegalArgumentException if what is not 0 to 4",
            r -> r.busy().noArgument("ifRead(0, v)", (o, v) -> o.ifRead(0, v), -1, 5));
        Bounds.test("IndexOutOfBoundsException ahead of IllegalArgumentException", r -> {
            r.noIndex("ifRead(v, -1)", (o, v) -> o.ifRead(v, -1), -1, 64);
            r.noIndex("ifRead(v, 5)", (o, v) -> o.ifRead(v, 5), -1, 64);
        });
        for (int i = 0; i <= 4; i++) {
            int what = i;
            Bounds.test("changes nothing: " + what,
                r -> r.busy().leavesAll("ifRead(0, what)", o -> o.ifRead(0, what)));
        }
    }

    // ---- promise 28

    private static void gentlestNone() {
        Bounds.test("NONE if there is none: no core is leased", r -> r.same("gentlest()", NONE, r.gentlest()));
        Bounds.test("NONE if there is none: no leased core has the bit 1", r -> {
            r.calm().lease(0, 0, 9);
            r.same("gentlest()", NONE, r.gentlest());
        });
        Bounds.test("NONE if there is none: a 1 of a core that is not leased any more", r -> {
            r.calm().lease(0, 0, 1);
            r.write(0, true);
            r.same("gentlest()", 0, r.gentlest());
            r.pass(1);
            r.same("gentlest()", NONE, r.gentlest());
        });
        Bounds.test("NONE if there is none: a write-back is owed for the only one", r -> {
            r.calm().one(63);
            r.same("gentlest()", 63, r.gentlest());
            r.read(63);
            r.same("gentlest()", NONE, r.gentlest());
            r.writeBack();
            r.same("gentlest()", 63, r.gentlest());
        });
    }

    private static void gentlest() {
        Bounds.test("of several the lowest number: the first and the last core", r -> {
            r.calm().ones(63, 0);
            r.same("gentlest()", 0, r.gentlest());
        });
        Bounds.test("of several the one with the greatest strength, by one", r -> {
            r.calm().ones(0, 63);
            r.write(0, true);
            r.same("gentlest()", 63, r.gentlest());
            r.write(63, true);
            r.same("gentlest()", 0, r.gentlest());
        });
        Bounds.test("of several the one with the greatest strength, also where a read would leave none of it", r -> {
            r.calm().lease(0, 0, 200);
            r.lease(9, 0, 200);
            r.weaken(0, 3);
            for (int i = 0; i < 19; i++) {
                r.write(9, true);
            }
            r.same("core(9, 1)", 5, r.core(9, 1));
            r.same("ifRead(9, 3)", 0, r.ifRead(9, 3));
            r.same("gentlest()", 9, r.gentlest());
        });
        Bounds.test("the fewest bits by disturbing, by one, ahead of the strength", r -> {
            r.calm().ones(0, 1, 9, 63);
            r.set(5, 100);
            r.write(63, true);
            // Reads would lose: of 0 one, of 1 two, of 9 one, of 63 none.
            r.same("gentlest()", 63, r.gentlest());
            r.read(63);
            r.same("gentlest()", 0, r.gentlest());
        });
        Bounds.test("the fewest bits by disturbing: none is less than setting 5", r -> {
            r.calm().ones(1, 0, 9);
            r.set(5, 99);
            r.same("gentlest()", 0, r.gentlest());
        });
        Bounds.test("the fewest bits by disturbing: of whatever tenant, and of cores that are not leased", r -> {
            r.calm().ones(0, 9);
            r.lease(8, 1, 1);
            r.write(8, true);
            r.lease(10, 0, 1);
            r.write(10, true);
            r.lease(25, 1, 9);
            r.write(25, true);
            r.pass(1);
            r.set(5, 100);
            // Reads would lose: of 0 that of 8; of 9 those of 8, 10, 25; of 25 that of 9. The rest can't be read.
            r.same("gentlest()", 0, r.gentlest());
            r.lease(1, 1, 9);
            r.write(25, true);
            r.same("9 was lost, 25 would lose none", 25, r.gentlest());
        });
        Bounds.test("the cores that can be read: also those of the last tenant", r -> {
            for (int i = 0; i < 6; i++) {
                r.addTenant(100);
            }
            r.lease(40, 5, 9);
            r.write(40, true);
            r.same("gentlest()", 40, r.gentlest());
        });
        Bounds.test("the cores that can be read: also one that is too weak to be written", r -> {
            r.calm().one(40);
            r.set(4, 100);
            r.same("gentlest()", 40, r.gentlest());
        });
        Bounds.test("of all 64, each of which would lose 14", r -> {
            r.calm().allOnes();
            r.set(5, 100);
            r.same("gentlest()", 0, r.gentlest());
        });
        Bounds.test("a strength of 0 is no less a choice, if it is the only one", r -> {
            r.calm().lease(9, 0, 200);
            r.weaken(9, 0);
            r.same("gentlest()", 9, r.gentlest());
        });
        Bounds.test("changes nothing", r -> r.busy().leavesAll("gentlest()", o -> o.gentlest()));
    }

    // ---- promise 29

    private static void savable() {
        Bounds.test("0 if no write-back is owed", r -> {
            r.calm().one(0);
            r.same("savable(1)", 0, r.savable(1));
            r.same("savable(9)", 0, r.savable(9));
        });
        Bounds.test("pace: 1 is the least, 9 the greatest", r -> {
            r.calm().allOnes();
            r.set(3, 0);
            for (int core = 0; core < 20; core++) {
                r.read(core);
            }
            for (int pace = 1; pace <= 9; pace++) {
                r.same("savable(" + pace + ")", pace, r.savable(pace));
            }
        });
        Bounds.test("as long as some are owed: fewer than the pace", r -> {
            r.calm().ones(0, 1);
            r.read(0);
            r.read(1);
            r.same("savable(9)", 2, r.savable(9));
        });
        Bounds.test("all 64 may be saved", r -> {
            r.calm().allOnes();
            r.set(3, 50);
            for (int core = 0; core < 64; core++) {
                r.read(core);
            }
            r.same("savable(1)", 51, r.savable(1));
            r.same("savable(2)", 64, r.savable(2));
            r.same("savable(9)", 64, r.savable(9));
        });
        Bounds.test("what became 1 before does not count", r -> {
            r.calm().ones(0, 1);
            r.read(0);
            r.writeBack();
            r.read(1);
            r.same("savable(1)", 1, r.savable(1));
        });
    }

    private static void savableInTime() {
        for (int patience = 0; patience <= 3; patience++) {
            int rounds = patience + 1;
            Bounds.test("pace write-backs, then one tick: " + rounds + " rounds are in time", r -> {
                r.calm().ones(0, 1, 2, 3, 4, 5);
                r.set(3, rounds - 1);
                for (int core = 0; core < 6; core++) {
                    r.read(core);
                }
                r.same("savable(1)", rounds, r.savable(1));
                r.same("savable(2)", Math.min(6, 2 * rounds), r.savable(2));
            });
        }
        Bounds.test("from now on: at the time at which they are due one round is in time", r -> {
            r.calm().ones(0, 1, 2);
            for (int core = 0; core < 3; core++) {
                r.read(core);
            }
            r.pass(5);
            r.same("savable(1)", 1, r.savable(1));
            r.same("savable(2)", 2, r.savable(2));
            r.same("savable(3)", 3, r.savable(3));
        });
        Bounds.test("the limit of the time does not matter: at the end of it write-backs can be late still", r -> {
            r.calm().late(10000);
            r.ones(0, 1, 2);
            r.set(3, 1);
            for (int core = 0; core < 3; core++) {
                r.read(core);
            }
            r.same("savable(1)", 2, r.savable(1));
            r.set(3, 0);
            r.write(0, true);
            r.read(0);
            r.same("savable(1) with one due at once", 2, r.savable(1));
            r.sameCounts("the time", 0, 10000);
        });
        Bounds.test("the limit of the time does not matter", r -> {
            r.calm().late(10000);
            r.ones(0, 1, 2);
            for (int core = 0; core < 3; core++) {
                r.read(core);
            }
            r.same("savable(1)", 3, r.savable(1));
            r.sameCounts("the time", 0, 10000);
        });
    }

    private static void savableElse() {
        Bounds.test("those whose lease ends meanwhile are dropped", r -> {
            r.calm().lease(0, 0, 200);
            r.lease(1, 0, 1);
            r.lease(2, 0, 2);
            r.lease(3, 0, 2);
            for (int core = 0; core < 4; core++) {
                r.write(core, true);
                r.read(core);
            }
            r.same("savable(1): 0, then 2", 2, r.savable(1));
            r.same("savable(2)", 4, r.savable(2));
        });
        Bounds.test("those are saved whose strength is just setting 4 then", r -> {
            r.calm().ones(0, 1);
            r.read(0);
            r.read(1);
            r.set(4, 97);
            r.same("savable(9)", 2, r.savable(9));
            r.set(4, 98);
            r.same("savable(9)", 0, r.savable(9));
        });
        Bounds.test("the heat of each write-back counts for the next: in one round, and over ticks", r -> {
            r.calm().ones(0, 1, 2);
            for (int core = 0; core < 3; core++) {
                r.read(core);
            }
            r.set(4, 97);
            r.set(1, 13);
            // The heats ahead of the write-backs are 0, 13, 26; with a cooling of 10 and a tick each 0, 3, 6.
            r.same("savable(3)", 2, r.savable(3));
            r.set(6, 10);
            r.same("savable(1)", 3, r.savable(1));
        });
        Bounds.test("the heat falls in each of the ticks", r -> {
            r.calm().ones(0, 1, 2, 3);
            for (int core = 0; core < 4; core++) {
                r.read(core);
            }
            r.set(1, 10);
            r.set(4, 97);
            r.set(6, 5);
            // With a pace of 1 the heats ahead of the write-backs are 0, 5, 10, 15; without cooling 0, 10, 20, 30.
            r.same("savable(1)", 4, r.savable(1));
            r.set(6, 0);
            r.same("savable(1) without cooling", 3, r.savable(1));
        });
        Bounds.test("a bit that became 1 counts, also if it is disturbed behind it", r -> {
            r.calm().ones(0, 1);
            r.read(0);
            r.read(1);
            r.set(5, 100);
            r.same("savable(2)", 2, r.savable(2));
        });
        Bounds.test("it is what writeBack and pass then do", r -> {
            r.calm().ones(0, 1, 2, 3, 4);
            for (int core = 0; core < 5; core++) {
                r.set(3, core % 3);
                r.read(core);
            }
            int told = r.savable(1);
            while (r.count(6) > 0) {
                r.writeBack();
                r.pass(1);
            }
            r.sameCounts("then", 10, told, 12, 2);
            r.same("told", 3, told);
        });
    }

    private static void savableRefused() {
        Bounds.test("IllegalArgumentException if pace is out of range",
            r -> r.busy().noArgument("savable", (o, v) -> o.savable(v), -1, 0, 10));
        Bounds.test("IllegalArgumentException also if no write-back is owed",
            r -> r.noArgument("savable", (o, v) -> o.savable(v), -1, 0, 10));
        for (int pace : new int[] {1, 9}) {
            Bounds.test("changes nothing: a pace of " + pace,
                r -> r.busy().leavesAll("savable", o -> o.savable(pace)));
        }
    }

    // ---- promise 30

    private static void atRisk() {
        Bounds.test("0 if no core can be read: none is leased", r -> {
            r.calm().lease(0, 0, 1);
            r.lease(1, 0, 1);
            r.write(0, true);
            r.write(1, true);
            r.set(5, 100);
            r.same("atRisk(0)", 1, r.atRisk(0));
            r.pass(1);
            r.same("atRisk(0)", 0, r.atRisk(0));
        });
        Bounds.test("over all cores that can be read: not one for which a write-back is owed", r -> {
            r.calm().ones(0, 1, 8);
            r.read(0);
            r.set(5, 100);
            r.same("atRisk(0): a read of 1 or 8 loses none", 0, r.atRisk(0));
            r.pass(6);
            r.same("atRisk(0): 0 can be read again", 2, r.atRisk(0));
        });
        Bounds.test("over all cores that can be read: also those of another tenant, and with the bit 0", r -> {
            r.calm().ones(1, 8);
            r.set(5, 100);
            r.same("atRisk(0)", 0, r.atRisk(0));
            r.lease(0, 1, 9);
            r.same("atRisk(0)", 2, r.atRisk(0));
            r.same("atRisk(1)", 0, r.atRisk(1));
        });
        Bounds.test("bits of cores that are leased to the tenant: not of another, not of none", r -> {
            r.calm().ones(0, 1);
            r.lease(2, 1, 200);
            r.write(2, true);
            r.lease(3, 1, 1);
            r.write(3, true);
            r.pass(1);
            r.set(5, 100);
            r.same("atRisk(0): 0 and 1, by a read of 2", 2, r.atRisk(0));
            r.same("atRisk(1): 2, by a read of 0 or 1", 1, r.atRisk(1));
        });
        Bounds.test("at most 14: all are of the tenant", r -> {
            r.calm().allOnes();
            r.set(5, 100);
            r.same("atRisk(0)", 14, r.atRisk(0));
            r.same("atRisk(1)", 0, r.atRisk(1));
        });
        Bounds.test("a strength less than setting 5, by one, and just as much", r -> {
            r.calm().ones(0, 1);
            r.set(5, 100);
            r.same("atRisk(0) with 100", 1, r.atRisk(0));
            r.set(5, 99);
            r.same("atRisk(0) with 99", 0, r.atRisk(0));
        });
        Bounds.test("the greatest number, wherever it is: of the last core", r -> {
            r.calm().ones(63, 62, 61, 0, 1);
            r.set(5, 100);
            r.same("atRisk(0)", 2, r.atRisk(0));
            r.write(62, false);
            r.same("atRisk(0)", 1, r.atRisk(0));
        });
        Bounds.test("changes nothing", r -> r.busy().leavesAll("atRisk(0)", o -> o.atRisk(0)));
    }

    private static void atRiskRefused() {
        Bounds.test("IndexOutOfBoundsException if there is no such tenant: none at all",
            r -> r.noIndex("atRisk", (o, v) -> o.atRisk(v), -1, 0));
        Bounds.test("IndexOutOfBoundsException if there is no such tenant: one beyond the last",
            r -> r.busy().noIndex("atRisk", (o, v) -> o.atRisk(v), -1, 2));
        Bounds.test("IndexOutOfBoundsException if there is no such tenant: one beyond the sixth", r -> {
            for (int i = 0; i < 6; i++) {
                r.addTenant(1);
            }
            r.same("atRisk(5)", 0, r.atRisk(5));
            r.noIndex("atRisk", (o, v) -> o.atRisk(v), -1, 6);
        });
    }

    // ---- promise 31

    private static void sameShare(Run r, double due) {
        r.same("the bits of backShare()", Double.doubleToLongBits(due), Double.doubleToLongBits(r.backShare()));
    }

    private static void backShare() {
        Bounds.test("0.0 if count(9) is 0: a new object", r -> sameShare(r, 0.0));
        Bounds.test("0.0 if count(9) is 0: reads that destroyed none", r -> {
            r.calm().lease(0, 0, 9);
            r.read(0);
            sameShare(r, 0.0);
        });
        Bounds.test("0 of 1 is 0.0", r -> {
            r.calm().one(0);
            r.read(0);
            sameShare(r, 0.0);
        });
        Bounds.test("1 of 1 is 1.0", r -> {
            r.calm().one(0);
            r.read(0);
            r.writeBack();
            sameShare(r, 1.0);
        });
        Bounds.test("divided by count(9): reads that destroyed none do not count", r -> {
            r.calm().one(0);
            r.lease(1, 0, 9);
            r.read(1);
            r.read(0);
            r.read(1);
            r.writeBack();
            sameShare(r, 1.0);
        });
        Bounds.test("as a double: 1 of 2, 1 of 3, 2 of 3", r -> {
            r.calm().ones(0, 1, 2);
            r.read(0);
            r.writeBack();
            r.read(1);
            sameShare(r, 0.5);
            r.read(2);
            sameShare(r, 1.0 / 3.0);
            r.writeBack();
            sameShare(r, 2.0 / 3.0);
        });
        Bounds.test("the least there can be that is not 0.0: 1 of many", r -> {
            r.calm().one(0);
            r.set(4, 0);
            r.read(0);
            r.writeBack();
            for (int i = 0; i < 48; i++) {
                r.read(0);
                r.write(0, true);
            }
            r.sameCounts("one of many", 9, 49, 10, 1);
            sameShare(r, 1.0 / 49.0);
            r.same("digest()", r.toldDigest(""), r.digest());
        });
        Bounds.test("changes nothing", r -> r.busy().leavesAll("backShare()", o -> o.backShare()));
    }

    // ---- promise 32

    private static void sameDigest(Run r, String text) {
        r.same("digest()", r.toldDigest(text), r.digest());
    }

    private static void digest() {
        Bounds.test("of a new object", r -> sameDigest(r, ""));
        Bounds.test("of a busy one", r -> sameDigest(r.busy(), "w00=1;b;t3"));
        Bounds.test("with a full buffer, of the ends of the codes", r -> {
            String text = "!~".repeat(30);
            r.type(text);
            sameDigest(r, text);
        });
        Bounds.test("with as many tenants and insurers as can be", r -> {
            for (int i = 0; i < 6; i++) {
                r.addTenant(10000 - i);
            }
            for (int i = 0; i < 3; i++) {
                r.addInsurer(10000 - i, 200 - i, 500 - i);
            }
            sameDigest(r, "");
        });
        Bounds.test("with 64 write-backs that are owed", r -> {
            r.calm().allOnes();
            for (int core = 63; core >= 0; core--) {
                r.read(core);
            }
            sameDigest(r, "");
        });
        Bounds.test("with the strength 0 and the heat 100", r -> {
            r.calm().lease(9, 0, 200);
            r.weaken(9, 0);
            sameDigest(r, "");
        });
        Bounds.test("at the end of the time", r -> {
            r.late(9990);
            r.calm().ones(0, 1, 2);
            r.read(0);
            r.read(1);
            r.read(2);
            r.pass(5);
            r.lease(5, 1, 5);
            r.pass(5);
            sameDigest(r, "");
        });
        Bounds.test("with all the settings at their ends", r -> {
            int[] most = {20, 20, 20, 50, 100, 100, 10, 50};
            for (int setting = 0; setting < 8; setting++) {
                r.set(setting, most[setting]);
            }
            sameDigest(r, "");
            for (int setting = 0; setting < 8; setting++) {
                r.set(setting, 0);
            }
            sameDigest(r, "");
        });
        for (int shares = 0; shares <= 7; shares++) {
            int back = shares;
            Bounds.test("the bits of backShare: " + back + " of 7", r -> {
                r.calm().ones(0, 1, 2, 3, 4, 5, 6);
                for (int core = 0; core < 7; core++) {
                    r.read(core);
                }
                for (int i = 0; i < back; i++) {
                    r.writeBack();
                }
                sameDigest(r, "");
            });
        }
    }

    private static void digestOfEach() {
        Bounds.test("changes nothing", r -> r.busy().leavesAll("digest()", o -> o.digest()));
        Bounds.test("with every call of a run", r -> {
            r.busy();
            r.clearBuffer();
            for (int i = 0; i < 40; i++) {
                int core = i * 7 % 10;
                boolean leased = r.core(core, 2) != NONE;
                if (i % 3 == 0 && leased) {
                    r.write(core, i % 2 == 0);
                } else if (i % 3 == 1 && leased && r.core(core, 6) == 0) {
                    r.read(core);
                } else if (r.count(6) > 1) {
                    r.writeBack();
                } else {
                    r.pass(1 + i % 2);
                }
                sameDigest(r, "");
            }
        });
    }
}

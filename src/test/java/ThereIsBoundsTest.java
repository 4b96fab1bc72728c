/** Boundary cases of the promises 17 to 23: what there is. */
public final class ThereIsBoundsTest {

    public static void main(String[] args) {
        Bounds.promise("promise 17, core");
        core();
        coreLost();
        coreRefused();
        Bounds.promise("promise 18, tenant");
        tenant();
        tenantRefused();
        Bounds.promise("promise 19, insurer");
        insurer();
        insurerRefused();
        Bounds.promise("promise 20, owed");
        owed();
        owedRefused();
        Bounds.promise("promise 21, weakest");
        weakest();
        Bounds.promise("promise 22, count");
        count();
        countRefused();
        Bounds.promise("promise 23, setting");
        setting();
        Bounds.end();
    }

    // ---- promise 17

    private static void core() {
        Bounds.test("1: strength, at least 0 and at most 100", r -> {
            r.calm().lease(0, 0, 200);
            r.same("core(0, 1)", 100, r.core(0, 1));
            r.weaken(0, 0);
            r.same("core(0, 1)", 0, r.core(0, 1));
        });
        Bounds.test("2: NONE if it is not leased, ahead of a lease and behind it", r -> {
            r.calm();
            r.same("core(0, 2)", CoreLeases.NONE, r.core(0, 2));
            r.lease(0, 0, 1);
            r.same("core(0, 2)", 0, r.core(0, 2));
            r.pass(1);
            r.same("core(0, 2)", CoreLeases.NONE, r.core(0, 2));
        });
        Bounds.test("3: 0 without a lease, 1 in its last tick", r -> {
            r.calm().lease(0, 0, 3);
            for (int left = 3; left >= 1; left--) {
                r.same("core(0, 3)", left, r.core(0, 3));
                r.pass(1);
            }
            r.same("core(0, 3)", 0, r.core(0, 3));
            r.pass(100);
            r.same("core(0, 3)", 0, r.core(0, 3));
        });
        Bounds.test("4: NONE without a policy, ahead of one, behind one and behind a claim", r -> {
            r.calm().one(0);
            r.same("core(0, 4)", CoreLeases.NONE, r.core(0, 4));
            r.insure(0, 0, 1);
            r.same("core(0, 4)", 0, r.core(0, 4));
            r.pass(1);
            r.same("core(0, 4)", CoreLeases.NONE, r.core(0, 4));
            r.insure(0, 0, 9);
            r.read(0);
            r.set(4, 100);
            r.writeBack();
            r.same("core(0, 4)", CoreLeases.NONE, r.core(0, 4));
        });
        Bounds.test("5: 0 without a policy, 1 in its last tick, 0 behind a claim", r -> {
            r.calm().one(0);
            r.insure(0, 0, 3);
            for (int left = 3; left >= 1; left--) {
                r.same("core(0, 5)", left, r.core(0, 5));
                r.pass(1);
            }
            r.same("core(0, 5)", 0, r.core(0, 5));
            r.insure(0, 0, 9);
            r.read(0);
            r.set(4, 100);
            r.writeBack();
            r.same("core(0, 5)", 0, r.core(0, 5));
        });
        Bounds.test("6 and 7: a write-back that is due at the time 0, and none", r -> {
            r.calm().one(0);
            r.same("core(0, 6)", 0, r.core(0, 6));
            r.same("core(0, 7)", CoreLeases.NONE, r.core(0, 7));
            r.set(3, 0);
            r.read(0);
            r.same("core(0, 6)", 1, r.core(0, 6));
            r.same("core(0, 7)", 0, r.core(0, 7));
            r.writeBack();
            r.same("core(0, 6)", 0, r.core(0, 6));
            r.same("core(0, 7)", CoreLeases.NONE, r.core(0, 7));
        });
        Bounds.test("changes nothing", r -> r.busy().leavesAll("core(4, 7)", o -> o.core(4, 7)));
    }

    private static void coreLost() {
        Bounds.test("8: in whatever way, also before a renewal", r -> {
            r.calm().one(0);
            r.lease(7, 1, 200);
            r.read(0);
            r.pass(6);
            r.same("by delay", 1, r.core(0, 8));
            r.write(0, true);
            r.read(0);
            r.set(4, 100);
            r.writeBack();
            r.same("by weakness", 2, r.core(0, 8));
            r.set(4, 0);
            r.write(0, true);
            r.set(5, 100);
            r.write(7, true);
            r.same("by disturbing", 3, r.core(0, 8));
            r.same("tenant(0, 3)", 3, r.tenant(0, 3));
            r.pass(100);
            r.pass(100);
            r.set(7, 0);
            r.renew(0);
            r.same("behind a renewal", 3, r.core(0, 8));
        });
        Bounds.test("8: so far, also ahead of the lease", r -> {
            r.calm().lease(0, 0, 6);
            r.write(0, true);
            r.read(0);
            r.pass(6);
            r.lease(0, 1, 9);
            r.sameCore("leased anew", 0, 0, 98, 1, 9, -1, 0, 0, -1, 1);
        });
        Bounds.test("8: not by a read, an overwriting, a drop or a renewal", r -> {
            r.calm().set(7, 0);
            r.lease(0, 0, 4);
            r.write(0, true);
            r.read(0);
            r.write(0, true);
            r.write(0, false);
            r.write(0, true);
            r.read(0);
            r.pass(4);
            r.lease(0, 0, 1);
            r.write(0, true);
            r.pass(1);
            r.renew(0);
            r.same("core(0, 8)", 0, r.core(0, 8));
            r.sameCounts("each once", 9, 2, 14, 1, 15, 1);
        });
    }

    private static void coreRefused() {
        Bounds.test("core: 0 to 63, what: 0 to 8", r -> {
            r.sameCore("the first", 0, 0, 100, -1, 0, -1, 0, 0, -1, 0);
            r.sameCore("the last", 63, 0, 100, -1, 0, -1, 0, 0, -1, 0);
        });
        Bounds.test("IndexOutOfBoundsException if there is no such core",
            r -> r.busy().noIndex("core(v, 0)", (o, v) -> o.core(v, 0), -1, 64));
        Bounds.test("IllegalArgumentException if what is not 0 to 8",
            r -> r.busy().noArgument("core(0, v)", (o, v) -> o.core(0, v), -1, 9));
        Bounds.test("IndexOutOfBoundsException ahead of IllegalArgumentException", r -> {
            r.noIndex("core(v, -1)", (o, v) -> o.core(v, -1), -1, 64);
            r.noIndex("core(v, 9)", (o, v) -> o.core(v, 9), -1, 64);
        });
    }

    // ---- promise 18

    private static void sameTenant(Run r, int tenant, int... due) {
        for (int what = 0; what < due.length; what++) {
            r.same("tenant(" + tenant + ", " + what + ")", due[what], r.tenant(tenant, what));
        }
    }

    private static void tenant() {
        Bounds.test("a tenant without anything", r -> {
            r.addTenant(0);
            sameTenant(r, 0, 0, 0, 0, 0, 0, 0);
        });
        Bounds.test("the first and the last of 6, each with its own", r -> {
            r.calm();
            for (int i = 2; i < 6; i++) {
                r.addTenant(10 * i);
            }
            r.lease(0, 5, 9);
            r.lease(1, 5, 9);
            r.insure(1, 0, 9);
            r.lease(2, 0, 9);
            sameTenant(r, 0, 10000, 1, 0, 0, 0, 0);
            sameTenant(r, 5, 40, 2, 1, 0, 0, 0);
            sameTenant(r, 4, 40, 0, 0, 0, 0, 0);
        });
        Bounds.test("3: lost while they were leased to this tenant, not to the one before or behind", r -> {
            r.calm().lease(0, 0, 2);
            r.write(0, true);
            r.pass(2);
            r.lease(0, 1, 2);
            r.lease(7, 1, 200);
            r.set(5, 100);
            r.write(7, false);
            sameTenant(r, 0, 10000, 0, 0, 0);
            sameTenant(r, 1, 10000, 2, 0, 1);
            r.write(0, true);
            r.pass(2);
            r.write(7, false);
            sameTenant(r, 0, 10000, 0, 0, 0);
            sameTenant(r, 1, 10000, 1, 0, 1);
            r.same("core(0, 8)", 2, r.core(0, 8));
        });
        Bounds.test("3: so far, also behind the end of the lease", r -> {
            r.calm().lease(0, 0, 6);
            r.write(0, true);
            r.read(0);
            r.pass(6);
            sameTenant(r, 0, 10000, 0, 0, 1, 0, 0);
        });
        Bounds.test("4 and 5: claims that are paid, and one that waits, of more than one insurer", r -> {
            r.calm().addInsurer(999, 1, 500);
            r.ones(0, 1, 2, 3);
            r.insure(0, 1, 1);
            r.insure(1, 1, 1);
            r.insure(2, 1, 1);
            r.insure(3, 0, 1);
            r.lease(7, 1, 9);
            r.set(5, 100);
            r.write(7, false);
            // The funds are 1002 and 2: two claims of 500 are paid.
            sameTenant(r, 0, 10000 - 5 + 1000, 4, 0, 4, 1000, 2);
            sameTenant(r, 1, 10000, 1, 0, 0, 0, 0);
        });
        Bounds.test("changes nothing", r -> r.busy().leavesAll("tenant(0, 5)", o -> o.tenant(0, 5)));
    }

    private static void tenantRefused() {
        Bounds.test("IndexOutOfBoundsException if there is no such tenant: none at all",
            r -> r.noIndex("tenant(v, 0)", (o, v) -> o.tenant(v, 0), -1, 0));
        Bounds.test("IndexOutOfBoundsException if there is no such tenant: one beyond the last",
            r -> r.busy().noIndex("tenant(v, 0)", (o, v) -> o.tenant(v, 0), -1, 2));
        Bounds.test("IndexOutOfBoundsException if there is no such tenant: one beyond the sixth", r -> {
            for (int i = 0; i < 6; i++) {
                r.addTenant(1);
            }
            r.noIndex("tenant(v, 0)", (o, v) -> o.tenant(v, 0), -1, 6);
        });
        Bounds.test("IllegalArgumentException if what is not 0 to 5",
            r -> r.busy().noArgument("tenant(0, v)", (o, v) -> o.tenant(0, v), -1, 6));
        Bounds.test("IndexOutOfBoundsException ahead of IllegalArgumentException", r -> {
            r.calm().noIndex("tenant(v, -1)", (o, v) -> o.tenant(v, -1), -1, 2);
            r.noIndex("tenant(v, 6)", (o, v) -> o.tenant(v, 6), -1, 2);
        });
    }

    // ---- promise 19

    private static void sameInsurer(Run r, int insurer, int... due) {
        for (int what = 0; what < due.length; what++) {
            r.same("insurer(" + insurer + ", " + what + ")", due[what], r.insurer(insurer, what));
        }
    }

    private static void insurer() {
        Bounds.test("the first and the last of 3, each with its own", r -> {
            r.calm().addInsurer(7, 8, 9);
            r.addInsurer(499, 1, 500);
            r.ones(0, 1, 2);
            r.insure(0, 2, 1);
            r.insure(1, 2, 1);
            r.insure(2, 0, 10);
            sameInsurer(r, 0, 12, 100, 50, 1, 0, 0, 12);
            sameInsurer(r, 1, 7, 8, 9, 0, 0, 0, 0);
            sameInsurer(r, 2, 501, 1, 500, 2, 0, 0, 2);
            r.lease(7, 1, 9);
            r.set(5, 100);
            r.write(7, false);
            sameInsurer(r, 0, 12, 100, 50, 0, 0, 1, 12);
            sameInsurer(r, 1, 7, 8, 9, 0, 0, 0, 0);
            sameInsurer(r, 2, 1, 1, 500, 0, 1, 1, 2);
        });
        Bounds.test("3: policies that ended, each in its way, are none", r -> {
            r.calm().lease(0, 0, 2);
            r.insure(0, 0, 1);
            r.lease(1, 0, 2);
            r.insure(1, 0, 2);
            r.same("insurer(0, 3)", 2, r.insurer(0, 3));
            r.pass(1);
            r.same("insurer(0, 3)", 1, r.insurer(0, 3));
            r.pass(1);
            r.same("insurer(0, 3)", 0, r.insurer(0, 3));
        });
        Bounds.test("6: premiums so far, together, also those that were paid out as claims", r -> {
            r.addTenant(100);
            r.addInsurer(0, 100, 1);
            r.lease(0, 0, 9);
            r.write(0, true);
            r.insure(0, 0, 1);
            r.read(0);
            r.pass(6);
            sameInsurer(r, 0, 2, 100, 1, 0, 0, 0, 2);
            r.write(0, true);
            r.insure(0, 0, 2);
            r.read(0);
            r.set(4, 100);
            r.writeBack();
            sameInsurer(r, 0, 2 + 4 - 1, 100, 1, 0, 1, 0, 6);
        });
        Bounds.test("changes nothing", r -> r.busy().leavesAll("insurer(1, 6)", o -> o.insurer(1, 6)));
    }

    private static void insurerRefused() {
        Bounds.test("IndexOutOfBoundsException if there is no such insurer: none at all",
            r -> r.noIndex("insurer(v, 0)", (o, v) -> o.insurer(v, 0), -1, 0));
        Bounds.test("IndexOutOfBoundsException if there is no such insurer: one beyond the last",
            r -> r.busy().noIndex("insurer(v, 0)", (o, v) -> o.insurer(v, 0), -1, 2));
        Bounds.test("IndexOutOfBoundsException if there is no such insurer: one beyond the third", r -> {
            for (int i = 0; i < 3; i++) {
                r.addInsurer(1, 1, 1);
            }
            r.noIndex("insurer(v, 0)", (o, v) -> o.insurer(v, 0), -1, 3);
        });
        Bounds.test("IllegalArgumentException if what is not 0 to 6",
            r -> r.busy().noArgument("insurer(0, v)", (o, v) -> o.insurer(0, v), -1, 7));
        Bounds.test("IndexOutOfBoundsException ahead of IllegalArgumentException", r -> {
            r.calm().noIndex("insurer(v, -1)", (o, v) -> o.insurer(v, -1), -1, 1);
            r.noIndex("insurer(v, 7)", (o, v) -> o.insurer(v, 7), -1, 1);
        });
    }

    // ---- promise 20

    private static void owed() {
        Bounds.test("NONE if there are not so many: none", r -> {
            for (int place : new int[] {0, 1, 62, 63}) {
                r.same("owed(" + place + ", 0)", CoreLeases.NONE, r.owed(place, 0));
                r.same("owed(" + place + ", 1)", CoreLeases.NONE, r.owed(place, 1));
            }
        });
        Bounds.test("NONE if there are not so many: one beyond the last", r -> {
            r.calm().ones(0, 63);
            r.set(3, 0);
            r.read(63);
            r.read(0);
            r.same("owed(0, 0)", 63, r.owed(0, 0));
            r.same("owed(0, 1)", 0, r.owed(0, 1));
            r.same("owed(1, 0)", 0, r.owed(1, 0));
            r.same("owed(1, 1)", 0, r.owed(1, 1));
            r.same("owed(2, 0)", CoreLeases.NONE, r.owed(2, 0));
            r.same("owed(2, 1)", CoreLeases.NONE, r.owed(2, 1));
            r.writeBack();
            r.same("owed(0, 0)", 0, r.owed(0, 0));
            r.same("owed(1, 0)", CoreLeases.NONE, r.owed(1, 0));
        });
        Bounds.test("1: the time at which it is due, not the ticks until then", r -> {
            r.calm().ones(0, 1);
            r.pass(7);
            r.read(1);
            r.pass(2);
            r.read(0);
            r.same("owed(0, 1)", 12, r.owed(0, 1));
            r.same("owed(1, 1)", 14, r.owed(1, 1));
        });
        Bounds.test("place: 63 is the greatest, when 64 are owed", r -> {
            r.calm().allOnes();
            for (int core = 63; core >= 0; core--) {
                r.read(core);
            }
            r.same("owed(0, 0)", 63, r.owed(0, 0));
            r.same("owed(62, 0)", 1, r.owed(62, 0));
            r.same("owed(63, 0)", 0, r.owed(63, 0));
            r.same("owed(63, 1)", 5, r.owed(63, 1));
        });
        Bounds.test("place: 63 when 63 are owed", r -> {
            r.calm().allOnes();
            for (int core = 1; core < 64; core++) {
                r.read(core);
            }
            r.same("owed(62, 0)", 63, r.owed(62, 0));
            r.same("owed(63, 0)", CoreLeases.NONE, r.owed(63, 0));
        });
        Bounds.test("changes nothing", r -> r.busy().leavesAll("owed(0, 0)", o -> o.owed(0, 0)));
    }

    private static void owedRefused() {
        Bounds.test("IllegalArgumentException if place is out of range", r -> {
            r.busy().noArgument("owed(v, 0)", (o, v) -> o.owed(v, 0), -1, 64);
            r.noArgument("owed(v, 1)", (o, v) -> o.owed(v, 1), -1, 64);
        });
        Bounds.test("IllegalArgumentException if what is out of range",
            r -> r.busy().noArgument("owed(0, v)", (o, v) -> o.owed(0, v), -1, 2));
        Bounds.test("IllegalArgumentException if what is out of range, also where none is owed", r -> {
            r.noArgument("owed(0, v)", (o, v) -> o.owed(0, v), -1, 2);
            r.noArgument("owed(63, v)", (o, v) -> o.owed(63, v), -1, 2);
        });
    }

    // ---- promise 21

    private static void weakest() {
        Bounds.test("by their numbers, if all strengths are the same; place: 0 to 63", r -> {
            for (int place = 0; place < 64; place++) {
                r.same("weakest(" + place + ")", place, r.weakest(place));
            }
        });
        Bounds.test("the least strength first: of the last core", r -> {
            r.calm().one(63);
            r.same("weakest(0)", 63, r.weakest(0));
            r.same("weakest(1)", 0, r.weakest(1));
            r.same("weakest(63)", 62, r.weakest(63));
        });
        Bounds.test("the least strength first, then the number: the ends of the strengths", r -> {
            r.calm().lease(40, 0, 200);
            r.weaken(40, 0);
            r.lease(50, 0, 200);
            r.lease(45, 0, 200);
            r.write(50, true);
            r.write(45, true);
            // The heater is between: five writes on it brought the heat up.
            int[] due = {40, Run.HEATER, 45, 50, 0, 1};
            for (int place = 0; place < due.length; place++) {
                r.same("weakest(" + place + ")", due[place], r.weakest(place));
            }
            r.same("weakest(63)", 62, r.weakest(63));
        });
        Bounds.test("all strengths differ", r -> {
            r.calm();
            for (int core = 0; core < 16; core++) {
                r.lease(core, 0, 200);
                for (int i = 0; i <= core; i++) {
                    r.write(core, false);
                }
            }
            for (int place = 0; place < 16; place++) {
                r.same("weakest(" + place + ")", 15 - place, r.weakest(place));
            }
            r.same("weakest(16)", 16, r.weakest(16));
        });
        Bounds.test("IllegalArgumentException if place is out of range",
            r -> r.busy().noArgument("weakest", (o, v) -> o.weakest(v), -1, 64));
        Bounds.test("changes nothing", r -> r.busy().leavesAll("weakest(63)", o -> o.weakest(63)));
    }

    // ---- promise 22

    private static void count() {
        Bounds.test("0: the time, up to 10000", r -> {
            r.late(10000);
            r.sameCounts("late", 0, 10000);
        });
        Bounds.test("1: the heat, up to 100", r -> {
            r.calm().heatTo(100);
            r.sameCounts("hot", 1, 100);
        });
        Bounds.test("2 and 3: as many tenants and insurers as can be", r -> {
            for (int i = 0; i < 6; i++) {
                r.addTenant(0);
            }
            for (int i = 0; i < 3; i++) {
                r.addInsurer(0, 1, 1);
            }
            r.sameCounts("full", 2, 6, 3, 3);
        });
        Bounds.test("4 and 7: cores that are leased, and all whose bit is 1, leased or not", r -> {
            r.calm().lease(0, 0, 1);
            r.lease(1, 1, 9);
            r.lease(2, 0, 9);
            r.write(0, true);
            r.write(1, true);
            r.sameCounts("ahead of the end of a lease", 4, 3, 7, 2);
            r.pass(1);
            r.sameCounts("behind it", 4, 2, 7, 2);
        });
        Bounds.test("8 to 15: each of what is counted by one, and by nothing else", ThereIsBoundsTest::countsApart);
        Bounds.test("16 and 17: the money of the house, and what it paid", r -> {
            r.addTenant(10000);
            r.set(0, 20);
            r.lease(0, 0, 200);
            r.set(7, 50);
            r.renew(1);
            r.renew(1);
            r.sameCounts("paid twice", 16, 3900, 17, 100);
        });
        Bounds.test("16: the house may have more than 10000", r -> {
            r.set(0, 20);
            for (int i = 0; i < 3; i++) {
                r.addTenant(10000);
                r.lease(i, i, 200);
                r.lease(8 + i, i, 200);
            }
            r.sameCounts("of six leases", 16, 24000);
        });
        Bounds.test("18: saved states, 0 to 6", r -> {
            for (int i = 0; i <= 8; i++) {
                r.sameCounts("saved", 18, Math.min(i, 6));
                r.set(0, 1);
            }
        });
        Bounds.test("changes nothing", r -> r.busy().leavesAll("count(18)", o -> o.count(18)));
    }

    private static void countsApart(Run r) {
        r.calm().ones(0, 2, 3, 9);
        r.lease(1, 1, 1);
        r.write(1, true);
        r.sameCounts("ahead", 8, 0, 9, 0, 10, 0, 11, 0, 12, 0, 13, 0, 14, 0, 15, 0);
        r.read(0);
        r.writeBack();
        r.sameCounts("a write-back", 8, 1, 9, 1, 10, 1, 11, 0, 12, 0, 13, 0, 14, 0, 15, 0);
        r.read(1);
        r.pass(1);
        r.sameCounts("a drop", 8, 2, 9, 2, 10, 1, 11, 0, 12, 0, 13, 0, 14, 0, 15, 1);
        r.read(0);
        r.write(0, false);
        r.sameCounts("an overwriting", 8, 3, 9, 3, 10, 1, 11, 0, 12, 0, 13, 0, 14, 1, 15, 1);
        r.read(0);
        r.sameCounts("a read of a 0", 8, 4, 9, 3, 10, 1, 11, 0, 12, 0, 13, 0, 14, 1, 15, 1);
        r.read(2);
        r.set(4, 100);
        r.writeBack();
        r.sameCounts("a weak core", 8, 5, 9, 4, 10, 1, 11, 1, 12, 0, 13, 0, 14, 1, 15, 1);
        r.read(3);
        r.pass(6);
        r.sameCounts("a delay", 8, 6, 9, 5, 10, 1, 11, 1, 12, 1, 13, 0, 14, 1, 15, 1);
        r.lease(8, 0, 9);
        r.set(5, 100);
        r.write(8, true);
        r.sameCounts("a disturbing", 8, 6, 9, 5, 10, 1, 11, 1, 12, 1, 13, 1, 14, 1, 15, 1);
    }

    private static void countRefused() {
        Bounds.test("what: 0 is the least, 18 the greatest", r -> {
            r.pass(3);
            r.same("count(0)", 3, r.count(0));
            r.same("count(18)", 1, r.count(18));
        });
        Bounds.test("IllegalArgumentException if what is not 0 to 18",
            r -> r.busy().noArgument("count", (o, v) -> o.count(v), -1, 19));
    }

    // ---- promise 23

    private static void setting() {
        Bounds.test("setting: 0 is the least, 7 the greatest", r -> {
            r.same("setting(0)", 2, r.setting(0));
            r.same("setting(7)", 10, r.setting(7));
        });
        Bounds.test("IndexOutOfBoundsException if there is no such setting",
            r -> r.busy().noIndex("setting", (o, v) -> o.setting(v), -1, 8));
        Bounds.test("changes nothing", r -> r.busy().leavesAll("setting(7)", o -> o.setting(7)));
    }
}

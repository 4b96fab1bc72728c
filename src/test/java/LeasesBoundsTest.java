/** Boundary cases of the promises 5 to 7, and of "Terms", leases and policies. */
public final class LeasesBoundsTest {

    public static void main(String[] args) {
        Bounds.promise("promise 5, lease");
        lease();
        leaseForMoney();
        leaseRefused();
        leaseOrder();
        Bounds.promise("promise 6, insure");
        insure();
        insureForMoney();
        insureRefused();
        insureState();
        insureOrder();
        Bounds.promise("promise 7, renew");
        renew();
        renewForMoney();
        renewRefused();
        Bounds.end();
    }

    // ---- promise 5

    private static void lease() {
        Bounds.test("core: 0 is the least, 63 the greatest", r -> {
            r.calm();
            r.same("lease(0, 0, 1)", 10000, r.lease(0, 0, 1));
            r.same("lease(63, 0, 1)", 10000, r.lease(63, 0, 1));
            r.sameCounts("both", 4, 2);
        });
        Bounds.test("tenant: 0 is the first, 5 the last of 6", r -> {
            for (int i = 0; i < 6; i++) {
                r.addTenant(100 * i);
            }
            r.set(0, 0);
            r.same("lease(7, 0, 1)", 0, r.lease(7, 0, 1));
            r.same("lease(8, 5, 1)", 500, r.lease(8, 5, 1));
            r.same("core(7, 2)", 0, r.core(7, 2));
            r.same("core(8, 2)", 5, r.core(8, 2));
        });
        Bounds.test("ticks: 1 is the least; the lease ends when 1 tick has passed", r -> {
            r.calm().lease(7, 1, 1);
            r.sameCore("leased", 7, 0, 100, 1, 1, -1, 0, 0, -1, 0);
            r.pass(1);
            r.sameCore("ended", 7, 0, 100, -1, 0, -1, 0, 0, -1, 0);
        });
        Bounds.test("ticks: 200 is the greatest; the lease ends when 200 ticks have passed", r -> {
            r.calm().pass(3);
            r.lease(7, 1, 200);
            r.same("left", 200, r.core(7, 3));
            r.pass(100);
            r.pass(99);
            r.same("left", 1, r.core(7, 3));
            r.same("core(7, 2)", 1, r.core(7, 2));
            r.pass(1);
            r.same("core(7, 2)", CoreLeases.NONE, r.core(7, 2));
            r.same("left", 0, r.core(7, 3));
        });
        Bounds.test("a lease made at the end of the time has all its ticks", r -> {
            r.calm().late(10000);
            r.lease(7, 1, 200);
            r.same("left", 200, r.core(7, 3));
        });
        Bounds.test("its bit stays as it is: a 1 and the strength of an earlier lease", r -> {
            r.calm().lease(7, 0, 1);
            r.write(7, true);
            r.pass(1);
            r.lease(7, 1, 9);
            r.sameCore("leased again", 7, 1, 99, 1, 9);
        });
        Bounds.test("undoable", r -> {
            r.calm().lease(7, 0, 5);
            r.undo();
            r.same("core(7, 2)", CoreLeases.NONE, r.core(7, 2));
            r.same("lease(7, 1, 5)", 10000, r.lease(7, 1, 5));
        });
    }

    private static void leaseForMoney() {
        Bounds.test("all the money for the rent is enough", r -> {
            r.addTenant(14);
            r.same("lease(0, 0, 7)", 0, r.lease(0, 0, 7));
            r.sameCounts("the house", 16, 14);
        });
        Bounds.test("IllegalStateException if the tenant has less money than the rent, by one", r -> {
            r.addTenant(13);
            r.addTenant(10000);
            r.noState("lease(0, 0, 7)", o -> o.lease(0, 0, 7));
            r.same("lease(0, 0, 6)", 1, r.lease(0, 0, 6));
        });
        Bounds.test("a rent of 0 needs no money", r -> {
            r.addTenant(0);
            r.noState("lease(0, 0, 1) for 2", o -> o.lease(0, 0, 1));
            r.set(0, 0);
            r.same("lease(0, 0, 200)", 0, r.lease(0, 0, 200));
            r.sameCounts("the house", 16, 0);
        });
        Bounds.test("each rent comes to what the house has", r -> {
            r.addTenant(14);
            r.addTenant(10);
            r.lease(0, 0, 3);
            r.sameCounts("the first", 16, 6);
            r.lease(1, 1, 5);
            r.sameCounts("the second", 16, 16);
            r.lease(2, 0, 4);
            r.sameCounts("the third", 16, 24);
            r.same("tenant(0, 0)", 0, r.tenant(0, 0));
            r.same("tenant(1, 0)", 0, r.tenant(1, 0));
        });
        Bounds.test("the greatest rent for the most ticks", r -> {
            r.addTenant(4001);
            r.addTenant(3999);
            r.set(0, 20);
            r.noState("lease(0, 1, 200)", o -> o.lease(0, 1, 200));
            r.same("lease(0, 0, 200)", 1, r.lease(0, 0, 200));
            r.sameCounts("the house", 16, 4000);
            r.same("the other pays nothing", 3999, r.tenant(1, 0));
        });
    }

    private static void leaseRefused() {
        Bounds.test("IndexOutOfBoundsException if there is no such core",
            r -> r.calm().noIndex("lease(v, 0, 1)", (o, v) -> o.lease(v, 0, 1), -1, 64));
        Bounds.test("IndexOutOfBoundsException if there is no such tenant: one beyond the last",
            r -> r.calm().noIndex("lease(0, v, 1)", (o, v) -> o.lease(0, v, 1), -1, 2));
        Bounds.test("IndexOutOfBoundsException if there is no such tenant: one beyond the sixth", r -> {
            for (int i = 0; i < 6; i++) {
                r.addTenant(9);
            }
            r.noIndex("lease(0, v, 1)", (o, v) -> o.lease(0, v, 1), -1, 6);
        });
        Bounds.test("IllegalArgumentException if ticks is out of range",
            r -> r.calm().noArgument("lease(0, 0, v)", (o, v) -> o.lease(0, 0, v), -1, 0, 201));
        Bounds.test("IllegalStateException if the core is leased, to whomever", r -> {
            r.calm().lease(0, 0, 2);
            r.noState("lease to the same", o -> o.lease(0, 0, 1));
            r.noState("lease to another", o -> o.lease(0, 1, 1));
        });
        Bounds.test("IllegalStateException if the core is leased, up to its last tick", r -> {
            r.calm().lease(0, 0, 2);
            r.pass(1);
            r.noState("lease in the last tick", o -> o.lease(0, 1, 1));
            r.pass(1);
            r.same("lease behind it", 10000, r.lease(0, 1, 1));
        });
        Bounds.test("a refused lease changes nothing, the saved states neither", r -> {
            r.busy().noIndex("lease(v, 0, 1)", (o, v) -> o.lease(v, 0, 1), -1, 64);
            r.noIndex("lease(40, v, 1)", (o, v) -> o.lease(40, v, 1), -1, 2);
            r.noArgument("lease(40, 0, v)", (o, v) -> o.lease(40, 0, v), 0, 201);
            r.noState("lease(0, 0, 1)", o -> o.lease(0, 0, 1));
        });
    }

    private static void leaseOrder() {
        Bounds.test("IndexOutOfBoundsException ahead of IllegalArgumentException", r -> {
            r.calm().noIndex("lease(v, 0, 0)", (o, v) -> o.lease(v, 0, 0), -1, 64);
            r.noIndex("lease(0, v, 201)", (o, v) -> o.lease(0, v, 201), -1, 2);
        });
        Bounds.test("IndexOutOfBoundsException ahead of IllegalStateException", r -> {
            r.addTenant(0);
            r.noIndex("lease(v, 0, 1) without money", (o, v) -> o.lease(v, 0, 1), -1, 64);
            r.set(0, 0);
            r.lease(0, 0, 9);
            r.noIndex("lease(0, v, 1) of a leased core", (o, v) -> o.lease(0, v, 1), -1, 1);
        });
        Bounds.test("IllegalArgumentException ahead of IllegalStateException", r -> {
            r.addTenant(0);
            r.noArgument("lease(0, 0, v) without money", (o, v) -> o.lease(0, 0, v), 0, 201);
            r.set(0, 0);
            r.lease(0, 0, 9);
            r.noArgument("lease(0, 0, v) of a leased core", (o, v) -> o.lease(0, 0, v), 0, 201);
            r.noIndex("lease(0, v, 0): all three", (o, v) -> o.lease(0, v, 0), -1, 1);
        });
    }

    // ---- promise 6

    private static void insure() {
        Bounds.test("core: 0 is the least, 63 the greatest", r -> {
            r.calm().lease(0, 0, 1);
            r.lease(63, 0, 1);
            r.same("insure(0, 0, 1)", 2, r.insure(0, 0, 1));
            r.same("insure(63, 0, 1)", 2, r.insure(63, 0, 1));
            r.sameCounts("both", 5, 2);
        });
        Bounds.test("insurer: 0 is the first, 2 the last of 3", r -> {
            r.calm().addInsurer(0, 200, 1);
            r.addInsurer(0, 50, 1);
            r.lease(0, 0, 9);
            r.lease(1, 0, 9);
            r.same("insure(0, 0, 8)", 9, r.insure(0, 0, 8));
            r.same("insure(1, 2, 8)", 5, r.insure(1, 2, 8));
            r.same("core(0, 4)", 0, r.core(0, 4));
            r.same("core(1, 4)", 2, r.core(1, 4));
            r.same("insurer(2, 0)", 5, r.insurer(2, 0));
            r.same("insurer(1, 0)", 0, r.insurer(1, 0));
        });
        Bounds.test("ticks: 1 is the least; the policy ends when 1 tick has passed", r -> {
            r.calm().lease(7, 1, 9);
            r.insure(7, 0, 1);
            r.sameCore("insured", 7, 0, 100, 1, 9, 0, 1);
            r.pass(1);
            r.sameCore("ended", 7, 0, 100, 1, 8, -1, 0);
        });
        Bounds.test("ticks: 200 is the greatest; the policy ends when 200 ticks have passed, with its lease", r -> {
            r.calm().pass(3);
            r.lease(7, 1, 200);
            r.same("insure(7, 0, 200)", 201, r.insure(7, 0, 200));
            r.pass(100);
            r.pass(99);
            r.sameCore("nearly", 7, 0, 100, 1, 1, 0, 1);
            r.pass(1);
            r.sameCore("ended", 7, 0, 100, -1, 0, -1, 0);
        });
        Bounds.test("divisions are rounded down: 999 of 1000 are 0, 1000 are 1", r -> {
            r.calm().addInsurer(0, 1, 1);
            r.lease(0, 0, 100);
            r.lease(1, 0, 100);
            r.heatTo(27);
            r.same("(10 + 27) * 27 * 1 = 999", 1, r.insure(0, 1, 27));
            r.heatTo(30);
            r.same("(10 + 30) * 25 * 1 = 1000", 2, r.insure(1, 1, 25));
        });
        Bounds.test("the greatest premium there can be", r -> {
            r.calm().addInsurer(0, 200, 1);
            r.lease(0, 0, 200);
            r.weaken(0, 0);
            r.same("insure(0, 1, 200)", 8401, r.insure(0, 1, 200));
            r.same("tenant(0, 0)", 10000 - 8401, r.tenant(0, 0));
            r.same("insurer(1, 6)", 8401, r.insurer(1, 6));
        });
        Bounds.test("undoable", r -> {
            r.calm().lease(7, 0, 5);
            r.insure(7, 0, 5);
            r.undo();
            r.same("core(7, 4)", CoreLeases.NONE, r.core(7, 4));
            r.same("tenant(0, 0)", 10000, r.tenant(0, 0));
            r.same("insurer(0, 0)", 0, r.insurer(0, 0));
            r.same("insure(7, 0, 5)", 6, r.insure(7, 0, 5));
        });
    }

    private static void insureForMoney() {
        Bounds.test("all the money for the premium is enough", r -> {
            r.set(0, 0);
            r.addTenant(8);
            r.addInsurer(0, 100, 50);
            r.lease(0, 0, 9);
            r.same("insure(0, 0, 7)", 8, r.insure(0, 0, 7));
            r.same("tenant(0, 0)", 0, r.tenant(0, 0));
            r.same("insurer(0, 0)", 8, r.insurer(0, 0));
        });
        Bounds.test("IllegalStateException if its tenant has less money than the premium, by one", r -> {
            r.set(0, 0);
            r.addTenant(8);
            r.addTenant(10000);
            r.addInsurer(10000, 100, 50);
            r.lease(0, 0, 9);
            r.noState("insure(0, 0, 8)", o -> o.insure(0, 0, 8));
        });
        Bounds.test("the least premium is 1: without money there is none", r -> {
            r.set(0, 0);
            r.addTenant(0);
            r.addTenant(1);
            r.addInsurer(0, 1, 50);
            r.lease(0, 0, 9);
            r.lease(1, 1, 9);
            r.noState("insure(0, 0, 1)", o -> o.insure(0, 0, 1));
            r.same("insure(1, 0, 1)", 1, r.insure(1, 0, 1));
        });
    }

    private static void insureRefused() {
        Bounds.test("IndexOutOfBoundsException if there is no such core",
            r -> r.calm().noIndex("insure(v, 0, 1)", (o, v) -> o.insure(v, 0, 1), -1, 64));
        Bounds.test("IndexOutOfBoundsException if there is no such insurer: one beyond the last", r -> {
            r.calm().lease(0, 0, 9);
            r.noIndex("insure(0, v, 1)", (o, v) -> o.insure(0, v, 1), -1, 1);
        });
        Bounds.test("IndexOutOfBoundsException if there is no such insurer: one beyond the third", r -> {
            r.calm().addInsurer(0, 1, 1);
            r.addInsurer(0, 1, 1);
            r.lease(0, 0, 9);
            r.noIndex("insure(0, v, 1)", (o, v) -> o.insure(0, v, 1), -1, 3);
        });
        Bounds.test("IllegalArgumentException if ticks is out of range", r -> {
            r.calm().lease(0, 0, 200);
            r.noArgument("insure(0, 0, v)", (o, v) -> o.insure(0, 0, v), -1, 0, 201);
        });
        Bounds.test("a refused insure changes nothing, the saved states neither", r -> {
            r.busy().noIndex("insure(v, 0, 1)", (o, v) -> o.insure(v, 0, 1), -1, 64);
            r.noIndex("insure(20, v, 1)", (o, v) -> o.insure(20, v, 1), -1, 2);
            r.noArgument("insure(20, 0, v)", (o, v) -> o.insure(20, 0, v), 0, 201);
            r.noState("insure(40, 0, 1)", o -> o.insure(40, 0, 1));
            r.noState("insure(20, 0, 38)", o -> o.insure(20, 0, 38));
        });
    }

    private static void insureState() {
        Bounds.test("IllegalStateException if the core is not leased", r -> {
            r.calm().noState("insure(0, 0, 1)", o -> o.insure(0, 0, 1));
            r.lease(0, 0, 1);
            r.pass(1);
            r.noState("insure(0, 0, 1) behind the lease", o -> o.insure(0, 0, 1));
        });
        Bounds.test("IllegalStateException if the core has a policy, up to its last tick", r -> {
            r.calm().addInsurer(0, 1, 1);
            r.lease(0, 0, 9);
            r.insure(0, 0, 2);
            r.noState("insure by the same", o -> o.insure(0, 0, 1));
            r.noState("insure by another", o -> o.insure(0, 1, 1));
            r.pass(1);
            r.noState("insure in the last tick", o -> o.insure(0, 1, 1));
            r.pass(1);
            r.same("insure behind it", 1, r.insure(0, 1, 1));
        });
        Bounds.test("the lease may end together with the policy, not earlier", r -> {
            r.calm().lease(0, 0, 9);
            r.noState("insure(0, 0, 10)", o -> o.insure(0, 0, 10));
            r.same("insure(0, 0, 9)", 10, r.insure(0, 0, 9));
        });
        Bounds.test("the lease may end together with the policy, not earlier, when some ticks have passed", r -> {
            r.calm().lease(0, 0, 9);
            r.pass(8);
            r.noState("insure(0, 0, 2)", o -> o.insure(0, 0, 2));
            r.same("insure(0, 0, 1)", 2, r.insure(0, 0, 1));
            r.pass(1);
            r.sameCounts("both ended", 4, 0, 5, 0);
        });
    }

    private static void insureOrder() {
        Bounds.test("IndexOutOfBoundsException ahead of IllegalArgumentException", r -> {
            r.calm().lease(0, 0, 9);
            r.noIndex("insure(v, 0, 0)", (o, v) -> o.insure(v, 0, 0), -1, 64);
            r.noIndex("insure(0, v, 201)", (o, v) -> o.insure(0, v, 201), -1, 1);
        });
        Bounds.test("IndexOutOfBoundsException ahead of IllegalStateException",
            r -> r.calm().noIndex("insure(0, v, 1) of a core that is not leased", (o, v) -> o.insure(0, v, 1), -1, 1));
        Bounds.test("IllegalArgumentException ahead of IllegalStateException", r -> {
            r.calm().noArgument("insure(0, 0, v) of a core that is not leased", (o, v) -> o.insure(0, 0, v), 0, 201);
            r.lease(0, 0, 9);
            r.noArgument("insure(0, 0, v) for longer than the lease", (o, v) -> o.insure(0, 0, v), 201);
            r.insure(0, 0, 9);
            r.noArgument("insure(0, 0, v) of a core with a policy", (o, v) -> o.insure(0, 0, v), 0, 201);
        });
        Bounds.test("all three",
            r -> r.calm().noIndex("insure(0, v, 0) of a core that is not leased", (o, v) -> o.insure(0, v, 0), -1, 1));
    }

    // ---- promise 7

    private static void renew() {
        Bounds.test("core: 0 is the least, 63 the greatest", r -> {
            r.calm().set(7, 0);
            for (int core : new int[] {0, 63}) {
                r.lease(core, 0, 1);
                r.write(core, true);
                r.pass(1);
                r.same("renew(" + core + ")", 99, r.renew(core));
                r.sameCore("renewed", core, 0, 100, -1, 0, -1, 0, 0, -1, 0);
            }
        });
        Bounds.test("the strength that it had: 0", r -> {
            r.calm().set(7, 0);
            r.lease(9, 0, 1);
            r.weaken(9, 0);
            r.pass(1);
            r.same("renew(9)", 0, r.renew(9));
            r.sameCore("renewed", 9, 0, 100);
        });
        Bounds.test("the strength that it had: 100", r -> {
            r.set(7, 0);
            r.same("renew(9)", 100, r.renew(9));
            r.same("renew(9) again", 100, r.renew(9));
        });
        Bounds.test("its bit is 0, which is no lost bit; what was lost before is counted still", r -> {
            r.calm().set(7, 0);
            r.lease(9, 0, 1);
            r.write(9, true);
            r.lease(10, 0, 1);
            r.set(5, 100);
            r.write(10, true);
            r.write(9, true);
            r.same("core(9, 8)", 1, r.core(9, 8));
            r.pass(1);
            r.same("renew(9)", 98, r.renew(9));
            r.sameCore("renewed", 9, 0, 100, -1, 0, -1, 0, 0, -1, 1);
        });
    }

    private static void renewForMoney() {
        Bounds.test("all the money of the house for the price is enough", r -> {
            r.addTenant(100);
            r.lease(0, 0, 5);
            r.renew(1);
            r.sameCounts("paid", 16, 0, 17, 10);
        });
        Bounds.test("IllegalStateException if the house has less money than the price, by one", r -> {
            r.addTenant(100);
            r.lease(0, 0, 5);
            r.set(7, 11);
            r.noState("renew(1)", o -> o.renew(1));
            r.set(7, 10);
            r.same("renew(1)", 100, r.renew(1));
            r.noState("renew(1) again", o -> o.renew(1));
        });
        Bounds.test("a price of 0 needs no money", r -> {
            r.noState("renew(1) for 10", o -> o.renew(1));
            r.set(7, 0);
            r.same("renew(1)", 100, r.renew(1));
            r.sameCounts("nothing is paid", 16, 0, 17, 0);
        });
        Bounds.test("the greatest price", r -> {
            r.addTenant(100);
            r.lease(0, 0, 26);
            r.set(7, 50);
            r.renew(1);
            r.sameCounts("paid", 16, 2, 17, 50);
        });
        Bounds.test("puts a new core in the place, and that is no pulse: no heat, nothing is disturbed", r -> {
            r.calm().ones(1, 8);
            r.lease(0, 0, 1);
            r.write(0, true);
            r.heatTo(50);
            r.pass(1);
            r.set(1, 20);
            r.set(2, 20);
            r.set(5, 100);
            r.set(7, 0);
            r.same("renew(0)", 99, r.renew(0));
            r.sameCounts("behind it", 0, 1, 1, 48, 7, 2, 8, 0, 13, 0);
            r.sameCore("renewed", 0, 0, 100, -1, 0, -1, 0, 0, -1, 0);
        });
        Bounds.test("undoable", r -> {
            r.calm().lease(0, 0, 1);
            r.write(0, true);
            r.pass(1);
            r.set(7, 0);
            r.renew(0);
            r.same("undo()", 5, r.undo());
            r.sameCore("behind undo", 0, 1, 99);
        });
    }

    private static void renewRefused() {
        Bounds.test("IndexOutOfBoundsException if there is no such core", r -> {
            r.set(7, 0);
            r.noIndex("renew", (o, v) -> o.renew(v), -1, 64);
        });
        Bounds.test("IndexOutOfBoundsException ahead of IllegalStateException",
            r -> r.noIndex("renew without money", (o, v) -> o.renew(v), -1, 64));
        Bounds.test("IllegalStateException if the core is leased, up to the last tick", r -> {
            r.calm().set(7, 0);
            r.lease(0, 0, 2);
            r.noState("renew(0)", o -> o.renew(0));
            r.pass(1);
            r.noState("renew(0) in the last tick", o -> o.renew(0));
            r.pass(1);
            r.same("renew(0) behind it", 100, r.renew(0));
        });
        Bounds.test("a refused renew changes nothing, the saved states neither", r -> {
            r.busy().noIndex("renew", (o, v) -> o.renew(v), -1, 64);
            r.noState("renew(0)", o -> o.renew(0));
            r.set(7, 50);
            r.noState("renew(40) without money", o -> o.renew(40));
        });
    }
}

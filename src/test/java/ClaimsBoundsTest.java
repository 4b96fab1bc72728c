/** Boundary cases of "Terms", leases and policies: when a claim comes, and when it is paid. */
public final class ClaimsBoundsTest {

    public static void main(String[] args) {
        Bounds.promise("Terms, leases and policies");
        comes();
        comesNot();
        ends();
        paidAtOnce();
        paidByPremiums();
        paidInOrder();
        apart();
        Bounds.end();
    }

    /** Tenants with 1000 each and one insurer, without rent, heat, disturbing; the least premium is 1. */
    private static void begin(Run r, int tenants, int fund, int cover) {
        for (int i = 0; i < tenants; i++) {
            r.addTenant(1000);
        }
        r.addInsurer(fund, 1, cover);
        for (int setting : new int[] {0, 1, 2, 5}) {
            r.set(setting, 0);
        }
    }

    /** A tenant's core with a 1 and a policy for a premium of 1. */
    private static void insured(Run r, int core, int tenant, int insurer) {
        r.lease(core, tenant, 50);
        r.write(core, true);
        r.insure(core, insurer, 20);
    }

    /** Disturbs all the bits in the row of a core that is leased for this. */
    private static void disturbFrom(Run r, int core) {
        r.lease(core, 0, 50);
        r.set(5, 100);
        r.write(core, false);
        r.set(5, 0);
    }

    // ---- when a claim comes

    private static void comes() {
        Bounds.test("a bit that is lost by disturbing is a claim", r -> {
            begin(r, 2, 10, 10);
            insured(r, 1, 1, 0);
            disturbFrom(r, 7);
            sameClaim(r);
        });
        Bounds.test("a bit that is lost by weakness is a claim", r -> {
            begin(r, 2, 10, 10);
            insured(r, 1, 1, 0);
            r.read(1);
            r.set(4, 100);
            r.writeBack();
            sameClaim(r);
        });
        Bounds.test("a bit that is lost by delay is a claim", r -> {
            begin(r, 2, 10, 10);
            insured(r, 1, 1, 0);
            r.read(1);
            r.pass(6);
            sameClaim(r);
        });
        Bounds.test("a bit that is lost by delay in the last tick of the policy is a claim", r -> {
            begin(r, 2, 10, 10);
            r.lease(1, 1, 50);
            r.write(1, true);
            r.insure(1, 0, 6);
            r.read(1);
            r.pass(6);
            sameClaim(r);
        });
        Bounds.test("a bit that is lost by delay in the last tick of the lease is a claim", r -> {
            begin(r, 2, 10, 10);
            r.lease(1, 1, 6);
            r.write(1, true);
            r.insure(1, 0, 6);
            r.read(1);
            r.pass(6);
            sameClaim(r);
        });
        Bounds.test("a bit that is lost in the last tick of the policy, ahead of its end, is a claim", r -> {
            begin(r, 2, 10, 10);
            insured(r, 1, 1, 0);
            r.pass(19);
            disturbFrom(r, 7);
            sameClaim(r);
        });
    }

    /** The tenant 1 paid a premium of 1 and got 10. */
    private static void sameClaim(Run r) {
        r.same("tenant(1, 0)", 1009, r.tenant(1, 0));
        r.same("tenant(1, 3)", 1, r.tenant(1, 3));
        r.same("tenant(1, 4)", 10, r.tenant(1, 4));
        r.same("tenant(1, 5)", 0, r.tenant(1, 5));
        r.same("insurer(0, 0)", 1, r.insurer(0, 0));
        r.same("insurer(0, 4)", 1, r.insurer(0, 4));
        r.same("insurer(0, 5)", 0, r.insurer(0, 5));
        r.same("core(1, 4)", CoreLeases.NONE, r.core(1, 4));
        r.same("core(1, 5)", 0, r.core(1, 5));
        r.same("core(1, 8)", 1, r.core(1, 8));
    }

    private static void comesNot() {
        Bounds.test("without a policy there is no claim", r -> {
            begin(r, 2, 10, 10);
            r.lease(1, 1, 50);
            r.write(1, true);
            disturbFrom(r, 7);
            sameNoClaim(r, 1000, 1);
        });
        Bounds.test("behind the end of the policy there is no claim", r -> {
            begin(r, 2, 10, 10);
            insured(r, 1, 1, 0);
            r.pass(20);
            disturbFrom(r, 7);
            sameNoClaim(r, 999, 1);
        });
        Bounds.test("a bit that is lost by delay one tick behind the end of the policy is no claim", r -> {
            begin(r, 2, 10, 10);
            r.lease(1, 1, 50);
            r.write(1, true);
            r.insure(1, 0, 5);
            r.read(1);
            r.pass(6);
            sameNoClaim(r, 999, 1);
        });
        Bounds.test("a bit that a read destroys is no claim", r -> {
            begin(r, 2, 10, 10);
            insured(r, 1, 1, 0);
            r.read(1);
            sameNoClaim(r, 999, 0);
        });
        Bounds.test("a bit that is overwritten, or too weak when it is written, is no claim", r -> {
            begin(r, 2, 10, 10);
            insured(r, 1, 1, 0);
            r.read(1);
            r.set(4, 100);
            r.write(1, true);
            r.write(1, false);
            sameNoClaim(r, 999, 0);
        });
        Bounds.test("a write-back that is dropped with its lease is no claim", r -> {
            begin(r, 2, 10, 10);
            r.lease(1, 1, 3);
            r.write(1, true);
            r.insure(1, 0, 3);
            r.read(1);
            r.pass(3);
            sameNoClaim(r, 999, 0);
        });
        Bounds.test("a 0 of an insured core is not lost", r -> {
            begin(r, 2, 10, 10);
            r.lease(1, 1, 50);
            r.insure(1, 0, 20);
            disturbFrom(r, 7);
            sameNoClaim(r, 999, 0);
        });
    }

    private static void sameNoClaim(Run r, int money, int lost) {
        r.same("tenant(1, 0)", money, r.tenant(1, 0));
        r.same("tenant(1, 3)", lost, r.tenant(1, 3));
        r.same("insurer(0, 4)", 0, r.insurer(0, 4));
        r.same("insurer(0, 5)", 0, r.insurer(0, 5));
    }

    private static void ends() {
        Bounds.test("a policy ends when there is a claim by it: a second loss is no claim, and it can be made anew", r -> {
            begin(r, 2, 10, 10);
            insured(r, 1, 1, 0);
            disturbFrom(r, 7);
            r.sameCounts("policies", 5, 0);
            r.write(1, true);
            r.set(5, 100);
            r.write(7, false);
            r.same("tenant(1, 3)", 2, r.tenant(1, 3));
            r.same("insurer(0, 4)", 1, r.insurer(0, 4));
            r.same("insurer(0, 5)", 0, r.insurer(0, 5));
            r.same("insure(1, 0, 1)", 1, r.insure(1, 0, 1));
        });
        Bounds.test("a policy ends with the lease: a new lease is without one", r -> {
            begin(r, 2, 10, 10);
            r.lease(1, 1, 3);
            r.insure(1, 0, 3);
            r.pass(3);
            r.lease(1, 0, 9);
            r.sameCore("leased anew", 1, 0, 100, 0, 9, -1, 0);
            r.sameCounts("policies", 5, 0);
            r.same("insurer(0, 3)", 0, r.insurer(0, 3));
        });
    }

    // ---- when a claim is paid

    private static void paidAtOnce() {
        Bounds.test("a fund that is not less than the claim: just as much", r -> {
            begin(r, 2, 499, 500);
            insured(r, 1, 1, 0);
            disturbFrom(r, 7);
            r.same("insurer(0, 0)", 0, r.insurer(0, 0));
            r.same("insurer(0, 4)", 1, r.insurer(0, 4));
            r.same("tenant(1, 4)", 500, r.tenant(1, 4));
        });
        Bounds.test("a fund that is less than the claim, by one", r -> {
            begin(r, 2, 498, 500);
            insured(r, 1, 1, 0);
            disturbFrom(r, 7);
            r.same("insurer(0, 0)", 499, r.insurer(0, 0));
            r.same("insurer(0, 4)", 0, r.insurer(0, 4));
            r.same("insurer(0, 5)", 1, r.insurer(0, 5));
            r.same("tenant(1, 4)", 0, r.tenant(1, 4));
            r.same("tenant(1, 5)", 1, r.tenant(1, 5));
        });
        Bounds.test("the least cover is paid out of the premium itself", r -> {
            begin(r, 2, 0, 1);
            insured(r, 1, 1, 0);
            disturbFrom(r, 7);
            r.same("insurer(0, 0)", 0, r.insurer(0, 0));
            r.same("tenant(1, 0)", 1000, r.tenant(1, 0));
        });
        Bounds.test("the greatest fund", r -> {
            begin(r, 2, 10000, 500);
            insured(r, 1, 1, 0);
            disturbFrom(r, 7);
            r.same("insurer(0, 0)", 9501, r.insurer(0, 0));
        });
        Bounds.test("a tenant with the most money may have more by claims", r -> {
            r.addTenant(10000);
            r.addInsurer(10000, 1, 500);
            r.set(0, 0);
            r.set(5, 0);
            insured(r, 1, 0, 0);
            disturbFrom(r, 7);
            r.same("tenant(0, 0)", 10499, r.tenant(0, 0));
        });
    }

    private static void paidByPremiums() {
        Bounds.test("a premium that makes the fund just the claim", r -> {
            begin(r, 2, 8, 10);
            insured(r, 1, 1, 0);
            disturbFrom(r, 7);
            r.same("insurer(0, 5)", 1, r.insurer(0, 5));
            r.same("insure(7, 0, 1)", 1, r.insure(7, 0, 1));
            r.same("insurer(0, 5)", 0, r.insurer(0, 5));
            r.same("insurer(0, 0)", 0, r.insurer(0, 0));
            r.same("tenant(1, 4)", 10, r.tenant(1, 4));
        });
        Bounds.test("a premium that makes the fund one less than the claim", r -> {
            begin(r, 2, 7, 10);
            insured(r, 1, 1, 0);
            disturbFrom(r, 7);
            r.insure(7, 0, 1);
            r.same("insurer(0, 5)", 1, r.insurer(0, 5));
            r.same("insurer(0, 0)", 9, r.insurer(0, 0));
            r.same("insurer(0, 4)", 0, r.insurer(0, 4));
        });
        Bounds.test("a premium pays as many claims as the fund allows, and no more", r -> {
            begin(r, 2, 0, 20);
            for (int core = 1; core < 7; core++) {
                insured(r, core, 1, 0);
            }
            disturbFrom(r, 7);
            r.same("insurer(0, 5)", 6, r.insurer(0, 5));
            r.lease(40, 0, 200);
            r.weaken(40, 84);
            // (10 + 100 + 16) * 200 / 1000 + 1 = 26, ahead of it 6 were there.
            r.same("insure(40, 0, 200)", 26, r.insure(40, 0, 200));
            r.same("insurer(0, 0)", 12, r.insurer(0, 0));
            r.same("insurer(0, 4)", 1, r.insurer(0, 4));
            r.same("insurer(0, 5)", 5, r.insurer(0, 5));
            r.lease(41, 0, 200);
            // (10 + 100) * 200 / 1000 + 1 = 23
            r.same("insure(41, 0, 200)", 23, r.insure(41, 0, 200));
            r.same("insurer(0, 0)", 15, r.insurer(0, 0));
            r.same("tenant(1, 5)", 4, r.tenant(1, 5));
        });
        Bounds.test("a premium pays all the claims that wait, and the rest stays in the fund", r -> {
            begin(r, 2, 0, 4);
            for (int core = 1; core < 4; core++) {
                insured(r, core, 1, 0);
            }
            r.insure(lost(r, 7), 0, 50);
            r.same("insurer(0, 5)", 2, r.insurer(0, 5));
            r.lease(40, 0, 200);
            r.lease(Run.HEATER, 0, 200);
            r.heatTo(100);
            r.same("insure(40, 0, 200)", 23, r.insure(40, 0, 200));
            r.same("insurer(0, 5)", 0, r.insurer(0, 5));
            r.same("insurer(0, 4)", 3, r.insurer(0, 4));
            r.same("insurer(0, 0)", 3 + 1 + 23 - 12, r.insurer(0, 0));
        });
        Bounds.test("without claims that wait the premium stays in the fund", r -> {
            begin(r, 1, 5000, 1);
            insured(r, 1, 0, 0);
            r.same("insurer(0, 0)", 5001, r.insurer(0, 0));
            r.same("insurer(0, 4)", 0, r.insurer(0, 4));
            r.same("insurer(0, 5)", 0, r.insurer(0, 5));
        });
    }

    private static int lost(Run r, int core) {
        disturbFrom(r, core);
        return core;
    }

    private static void paidInOrder() {
        Bounds.test("the claims wait in the order in which they came, not in that of the cores", r -> {
            begin(r, 3, 0, 10);
            insured(r, 30, 2, 0);
            insured(r, 1, 1, 0);
            disturbFrom(r, 24);
            disturbFrom(r, 7);
            r.same("insurer(0, 5)", 2, r.insurer(0, 5));
            r.lease(40, 0, 50);
            r.weaken(40, 80);
            // (10 + 100 + 20) * 50 / 1000 + 1 = 7, which is one too little; then one more.
            r.same("insure(40, 0, 50)", 7, r.insure(40, 0, 50));
            r.same("nobody is paid", 2, r.insurer(0, 5));
            r.insure(7, 0, 1);
            r.same("tenant(2, 4)", 10, r.tenant(2, 4));
            r.same("tenant(1, 4)", 0, r.tenant(1, 4));
            r.same("tenant(1, 5)", 1, r.tenant(1, 5));
        });
        Bounds.test("a claim that comes pays the first one, not itself", r -> {
            begin(r, 3, 8, 10);
            insured(r, 1, 1, 0);
            disturbFrom(r, 7);
            r.same("tenant(1, 5)", 1, r.tenant(1, 5));
            insured(r, 30, 2, 0);
            r.same("tenant(1, 5)", 0, r.tenant(1, 5));
            disturbFrom(r, 24);
            r.same("tenant(2, 5)", 1, r.tenant(2, 5));
            r.same("insurer(0, 0)", 0, r.insurer(0, 0));
        });
        Bounds.test("bits that are lost by delay in one tick: the claims come in the order of the write-backs", r -> {
            begin(r, 3, 8, 10);
            insured(r, 1, 1, 0);
            insured(r, 30, 2, 0);
            r.read(30);
            r.read(1);
            r.pass(6);
            r.same("tenant(2, 4)", 10, r.tenant(2, 4));
            r.same("tenant(1, 4)", 0, r.tenant(1, 4));
            r.same("tenant(1, 5)", 1, r.tenant(1, 5));
        });
        Bounds.test("a write-back disturbs ahead of its own loss: the claims come in this order", r -> {
            begin(r, 3, 8, 10);
            insured(r, 1, 1, 0);
            insured(r, 6, 2, 0);
            r.read(1);
            r.set(4, 100);
            r.set(5, 100);
            r.writeBack();
            r.same("tenant(2, 4)", 10, r.tenant(2, 4));
            r.same("tenant(1, 5)", 1, r.tenant(1, 5));
        });
        Bounds.test("a tenant is paid whose lease has ended", r -> {
            begin(r, 3, 0, 1);
            r.addInsurer(0, 1, 3);
            r.lease(1, 1, 6);
            r.write(1, true);
            r.insure(1, 1, 6);
            r.read(1);
            r.pass(6);
            r.sameCounts("leased", 4, 0);
            r.same("tenant(1, 5)", 1, r.tenant(1, 5));
            r.lease(1, 2, 50);
            r.insure(1, 1, 1);
            r.lease(2, 2, 50);
            r.insure(2, 1, 1);
            r.same("tenant(1, 4)", 3, r.tenant(1, 4));
            r.same("tenant(1, 0)", 1002, r.tenant(1, 0));
            r.same("tenant(2, 4)", 0, r.tenant(2, 4));
        });
    }

    private static void apart() {
        Bounds.test("the claims on each insurer wait for its own fund", r -> {
            begin(r, 2, 0, 10);
            r.addInsurer(10000, 1, 20);
            r.addInsurer(0, 1, 30);
            insured(r, 1, 1, 0);
            insured(r, 2, 1, 2);
            disturbFrom(r, 7);
            r.same("insurer(0, 5)", 1, r.insurer(0, 5));
            r.same("insurer(1, 5)", 0, r.insurer(1, 5));
            r.same("insurer(2, 5)", 1, r.insurer(2, 5));
            r.same("tenant(1, 5)", 2, r.tenant(1, 5));
            r.insure(7, 1, 1);
            r.same("tenant(1, 5) behind a premium of the rich", 2, r.tenant(1, 5));
            r.same("insurer(1, 0)", 10001, r.insurer(1, 0));
        });
        Bounds.test("a first claim on an insurer that waits does not keep one on another waiting", r -> {
            begin(r, 2, 0, 500);
            r.addInsurer(19, 1, 20);
            insured(r, 1, 1, 0);
            insured(r, 2, 1, 1);
            disturbFrom(r, 7);
            r.same("insurer(0, 5)", 1, r.insurer(0, 5));
            r.same("insurer(1, 4)", 1, r.insurer(1, 4));
            r.same("tenant(1, 4)", 20, r.tenant(1, 4));
        });
    }
}

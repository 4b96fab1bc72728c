/** Boundary cases of the promises 24 to 26: what premiums would be. */
public final class PremiumsBoundsTest {

    public static void main(String[] args) {
        Bounds.promise("promise 24, premium");
        premium();
        premiumThatCannotBe();
        premiumRefused();
        Bounds.promise("promise 25, cheapest");
        cheapest();
        cheapestOfSeveral();
        cheapestRefused();
        Bounds.promise("promise 26, waitFor");
        waitFor();
        waitForAtTheEnds();
        waitForNothingElse();
        waitForRefused();
        Bounds.end();
    }

    // ---- promise 24

    private static void premium() {
        Bounds.test("core: 0 is the least, 63 the greatest", r -> {
            r.calm().one(63);
            r.same("premium(0, 0, 100)", 101, r.premium(0, 0, 100));
            r.same("premium(63, 0, 100)", 111, r.premium(63, 0, 100));
        });
        Bounds.test("insurer: 0 is the first, 2 the last of 3", r -> {
            r.calm().addInsurer(0, 20, 1);
            r.addInsurer(0, 30, 1);
            r.same("premium(0, 0, 100)", 101, r.premium(0, 0, 100));
            r.same("premium(0, 2, 100)", 31, r.premium(0, 2, 100));
        });
        Bounds.test("ticks: 1 is the least, 200 the greatest", r -> {
            r.calm();
            r.same("premium(0, 0, 1)", 2, r.premium(0, 0, 1));
            r.same("premium(0, 0, 200)", 201, r.premium(0, 0, 200));
        });
        Bounds.test("the least premium: 1", r -> {
            r.addInsurer(0, 1, 1);
            r.same("premium(0, 0, 1)", 1, r.premium(0, 0, 1));
            r.same("10 * 99 = 990", 1, r.premium(0, 0, 99));
            r.same("10 * 100 = 1000", 2, r.premium(0, 0, 100));
            r.same("10 * 199 = 1990", 2, r.premium(0, 0, 199));
            r.same("10 * 200 = 2000", 3, r.premium(0, 0, 200));
        });
        Bounds.test("divisions are rounded down: 999 of 1000", r -> {
            r.calm().addInsurer(0, 1, 1);
            r.heatTo(27);
            r.same("37 * 27 = 999", 1, r.premium(0, 1, 27));
            r.same("37 * 28 = 1036", 2, r.premium(0, 1, 28));
        });
        Bounds.test("the greatest premium: of the strength 0 in the heat 100 at the rate 200 for 200 ticks", r -> {
            r.calm().addInsurer(0, 200, 1);
            r.lease(0, 0, 200);
            r.weaken(0, 0);
            r.same("premium(0, 1, 200)", 8401, r.premium(0, 1, 200));
            r.same("premium(1, 1, 200)", 4401, r.premium(1, 1, 200));
        });
        Bounds.test("changes nothing", r -> r.busy().leavesAll("premium(0, 0, 1)", o -> o.premium(0, 0, 1)));
    }

    private static void premiumThatCannotBe() {
        Bounds.test("whether it can be made does not matter: the core is not leased", r -> {
            r.addInsurer(0, 100, 1);
            r.same("premium(0, 0, 9)", 10, r.premium(0, 0, 9));
        });
        Bounds.test("whether it can be made does not matter: the core has a policy", r -> {
            r.calm().lease(0, 0, 200);
            r.insure(0, 0, 200);
            r.same("premium(0, 0, 9)", 10, r.premium(0, 0, 9));
        });
        Bounds.test("whether it can be made does not matter: its lease ends earlier", r -> {
            r.calm().lease(0, 0, 1);
            r.same("premium(0, 0, 9)", 10, r.premium(0, 0, 9));
        });
        Bounds.test("whether it can be made does not matter: its tenant has less money", r -> {
            r.set(0, 0);
            r.addTenant(0);
            r.addInsurer(0, 100, 1);
            r.lease(0, 0, 9);
            r.same("premium(0, 0, 9)", 10, r.premium(0, 0, 9));
        });
        Bounds.test("it is what insure then takes", r -> {
            r.calm().addInsurer(0, 173, 1);
            r.lease(0, 0, 200);
            r.weaken(0, 33);
            int told = r.premium(0, 1, 137);
            r.same("insure(0, 1, 137)", told, r.insure(0, 1, 137));
            r.same("told", (10 + 100 + 67) * 137 * 173 / 1000 + 1, told);
        });
    }

    private static void premiumRefused() {
        Bounds.test("IndexOutOfBoundsException if there is no such core",
            r -> r.busy().noIndex("premium(v, 0, 1)", (o, v) -> o.premium(v, 0, 1), -1, 64));
        Bounds.test("IndexOutOfBoundsException if there is no such insurer: one beyond the last",
            r -> r.busy().noIndex("premium(0, v, 1)", (o, v) -> o.premium(0, v, 1), -1, 2));
        Bounds.test("IndexOutOfBoundsException if there is no such insurer: one beyond the third", r -> {
            for (int i = 0; i < 3; i++) {
                r.addInsurer(0, 1, 1);
            }
            r.noIndex("premium(0, v, 1)", (o, v) -> o.premium(0, v, 1), -1, 3);
        });
        Bounds.test("IllegalArgumentException if ticks is out of range",
            r -> r.busy().noArgument("premium(0, 0, v)", (o, v) -> o.premium(0, 0, v), -1, 0, 201));
        Bounds.test("IndexOutOfBoundsException ahead of IllegalArgumentException", r -> {
            r.calm().noIndex("premium(v, 0, 0)", (o, v) -> o.premium(v, 0, 0), -1, 64);
            r.noIndex("premium(0, v, 201)", (o, v) -> o.premium(0, v, 201), -1, 1);
        });
    }

    // ---- promise 25

    private static void cheapest() {
        Bounds.test("NONE if there is none: without insurers",
            r -> r.same("cheapest(0, 1, 1)", CoreLeases.NONE, r.cheapest(0, 1, 1)));
        Bounds.test("whose cover is at least cover: just as much, and one less", r -> {
            r.addInsurer(0, 9, 77);
            r.same("cheapest(0, 77, 1)", 0, r.cheapest(0, 77, 1));
            r.same("cheapest(0, 78, 1)", CoreLeases.NONE, r.cheapest(0, 78, 1));
        });
        Bounds.test("cover: 1 is the least, 500 the greatest", r -> {
            r.addInsurer(0, 9, 1);
            r.same("cheapest(0, 1, 1)", 0, r.cheapest(0, 1, 1));
            r.same("cheapest(0, 500, 1)", CoreLeases.NONE, r.cheapest(0, 500, 1));
            r.addInsurer(0, 9, 500);
            r.same("cheapest(0, 500, 1)", 1, r.cheapest(0, 500, 1));
        });
        Bounds.test("core: 0 is the least, 63 the greatest; ticks: 1 is the least, 200 the greatest", r -> {
            r.addInsurer(0, 9, 1);
            r.same("cheapest(0, 1, 1)", 0, r.cheapest(0, 1, 1));
            r.same("cheapest(63, 1, 200)", 0, r.cheapest(63, 1, 200));
        });
        Bounds.test("the fund does not matter, nor whether the policy can be made", r -> {
            r.addInsurer(10000, 10, 5);
            r.addInsurer(0, 9, 5);
            r.same("cheapest(0, 5, 200)", 1, r.cheapest(0, 5, 200));
        });
        Bounds.test("changes nothing", r -> r.busy().leavesAll("cheapest(0, 1, 1)", o -> o.cheapest(0, 1, 1)));
    }

    private static void cheapestOfSeveral() {
        Bounds.test("of several the lowest number: the same rates", r -> {
            for (int i = 0; i < 3; i++) {
                r.addInsurer(0, 50, 100);
            }
            r.same("cheapest(0, 100, 100)", 0, r.cheapest(0, 100, 100));
        });
        Bounds.test("of several the lowest number: the premiums are the same by rounding, the rates not", r -> {
            r.addInsurer(0, 99, 100);
            r.addInsurer(0, 1, 100);
            r.same("cheapest(0, 1, 1): 990 and 10", 0, r.cheapest(0, 1, 1));
            r.same("cheapest(0, 1, 2): 1980 and 20", 1, r.cheapest(0, 1, 2));
        });
        Bounds.test("of several the lowest number: whose cover is greater or less does not matter", r -> {
            r.addInsurer(0, 50, 200);
            r.addInsurer(0, 50, 100);
            r.addInsurer(0, 50, 300);
            r.same("cheapest(0, 100, 100)", 0, r.cheapest(0, 100, 100));
            r.same("cheapest(0, 201, 100)", 2, r.cheapest(0, 201, 100));
        });
        Bounds.test("the least premium: that for the strength of this core, in the heat of now", r -> {
            r.addTenant(10000);
            r.addInsurer(0, 99, 100);
            r.addInsurer(0, 1, 100);
            r.lease(9, 0, 200);
            r.set(1, 0);
            r.write(9, true);
            // A core that is new costs 990 and 10 thousandths, one with the strength 99 costs 1089 and 11.
            r.same("cheapest(8, 1, 1)", 0, r.cheapest(8, 1, 1));
            r.same("cheapest(9, 1, 1)", 1, r.cheapest(9, 1, 1));
            r.set(1, 1);
            r.write(9, true);
            r.same("cheapest(8, 1, 1) in a heat of 1", 1, r.cheapest(8, 1, 1));
            r.pass(1);
            r.same("cheapest(8, 1, 1) in a heat of 0", 0, r.cheapest(8, 1, 1));
        });
        Bounds.test("the least premium: the last one, by one", r -> {
            r.addInsurer(0, 101, 100);
            r.addInsurer(0, 100, 100);
            r.addInsurer(0, 99, 100);
            r.same("cheapest(0, 1, 100)", 2, r.cheapest(0, 1, 100));
            r.same("cheapest(0, 1, 1)", 2, r.cheapest(0, 1, 1));
        });
        Bounds.test("a cheaper one with too little cover does not count, wherever it stands", r -> {
            r.addInsurer(0, 1, 99);
            r.addInsurer(0, 50, 100);
            r.addInsurer(0, 1, 99);
            r.same("cheapest(0, 100, 100)", 1, r.cheapest(0, 100, 100));
            r.same("cheapest(0, 99, 100)", 0, r.cheapest(0, 99, 100));
        });
    }

    private static void cheapestRefused() {
        Bounds.test("IndexOutOfBoundsException if there is no such core",
            r -> r.busy().noIndex("cheapest(v, 1, 1)", (o, v) -> o.cheapest(v, 1, 1), -1, 64));
        Bounds.test("IllegalArgumentException if cover is out of range",
            r -> r.busy().noArgument("cheapest(0, v, 1)", (o, v) -> o.cheapest(0, v, 1), -1, 0, 501));
        Bounds.test("IllegalArgumentException if ticks is out of range",
            r -> r.busy().noArgument("cheapest(0, 1, v)", (o, v) -> o.cheapest(0, 1, v), -1, 0, 201));
        Bounds.test("IllegalArgumentException also without insurers", r -> {
            r.noArgument("cheapest(0, v, 1)", (o, v) -> o.cheapest(0, v, 1), 0, 501);
            r.noArgument("cheapest(0, 1, v)", (o, v) -> o.cheapest(0, 1, v), 0, 201);
        });
        Bounds.test("IndexOutOfBoundsException ahead of IllegalArgumentException", r -> {
            r.calm().noIndex("cheapest(v, 0, 1)", (o, v) -> o.cheapest(v, 0, 1), -1, 64);
            r.noIndex("cheapest(v, 1, 201)", (o, v) -> o.cheapest(v, 1, 201), -1, 64);
        });
    }

    // ---- promise 26

    private static void waitFor() {
        Bounds.test("at most most: just as much needs no wait", r -> {
            r.calm();
            r.same("waitFor(0, 0, 100, 101)", 0, r.waitFor(0, 0, 100, 101));
        });
        Bounds.test("at most most: one more is never reached without heat", r -> {
            r.calm();
            r.same("waitFor(0, 0, 100, 100)", CoreLeases.NONE, r.waitFor(0, 0, 100, 100));
        });
        Bounds.test("the least number of ticks: one", r -> {
            r.calm().heatTo(50);
            r.set(6, 1);
            // The premium is (60 - wait) * 10 + 1.
            r.same("waitFor(0, 0, 100, 601)", 0, r.waitFor(0, 0, 100, 601));
            r.same("waitFor(0, 0, 100, 600)", 1, r.waitFor(0, 0, 100, 600));
            r.same("waitFor(0, 0, 100, 591)", 1, r.waitFor(0, 0, 100, 591));
            r.same("waitFor(0, 0, 100, 590)", 2, r.waitFor(0, 0, 100, 590));
        });
        Bounds.test("the most ticks that help: 100, from the greatest heat with the least cooling", r -> {
            r.calm().heatTo(100);
            r.set(6, 1);
            r.same("waitFor(0, 0, 100, 101)", 100, r.waitFor(0, 0, 100, 101));
            r.same("waitFor(0, 0, 100, 100)", CoreLeases.NONE, r.waitFor(0, 0, 100, 100));
        });
        Bounds.test("NONE if there is none: without cooling", r -> {
            r.calm().heatTo(1);
            r.set(6, 0);
            r.same("waitFor(0, 0, 100, 111)", 0, r.waitFor(0, 0, 100, 111));
            r.same("waitFor(0, 0, 100, 110)", CoreLeases.NONE, r.waitFor(0, 0, 100, 110));
        });
        Bounds.test("the heat is at least 0 also where the last tick cools by less", r -> {
            r.calm().heatTo(95);
            r.set(6, 10);
            r.same("waitFor(0, 0, 100, 151)", 9, r.waitFor(0, 0, 100, 151));
            r.same("waitFor(0, 0, 100, 150)", 10, r.waitFor(0, 0, 100, 150));
            r.same("waitFor(0, 0, 100, 101)", 10, r.waitFor(0, 0, 100, 101));
            r.same("waitFor(0, 0, 100, 100)", CoreLeases.NONE, r.waitFor(0, 0, 100, 100));
        });
    }

    private static void waitForAtTheEnds() {
        Bounds.test("most: 1 is the least", r -> {
            r.addInsurer(0, 1, 1);
            r.same("waitFor(0, 0, 99, 1)", 0, r.waitFor(0, 0, 99, 1));
            r.same("waitFor(0, 0, 100, 1)", CoreLeases.NONE, r.waitFor(0, 0, 100, 1));
        });
        Bounds.test("most: 10000 is the greatest, more than every premium", r -> {
            r.calm().addInsurer(0, 200, 1);
            r.lease(0, 0, 200);
            r.weaken(0, 0);
            r.same("waitFor(0, 1, 200, 10000)", 0, r.waitFor(0, 1, 200, 10000));
            r.same("waitFor(0, 1, 200, 8401)", 0, r.waitFor(0, 1, 200, 8401));
            r.same("waitFor(0, 1, 200, 8400)", 1, r.waitFor(0, 1, 200, 8400));
        });
        Bounds.test("core: 0 and 63; insurer: the first and the last of 3; ticks: 1 and 200", r -> {
            r.calm().addInsurer(0, 1, 1);
            r.addInsurer(0, 200, 1);
            r.heatTo(10);
            r.same("waitFor(0, 0, 1, 2)", 1, r.waitFor(0, 0, 1, 2));
            r.same("waitFor(63, 2, 200, 401)", CoreLeases.NONE, r.waitFor(63, 2, 200, 401));
            r.same("waitFor(62, 2, 200, 401)", 5, r.waitFor(62, 2, 200, 401));
        });
        Bounds.test("the limit of the time does not matter", r -> {
            r.calm().late(10000);
            r.heatTo(100);
            r.same("waitFor(0, 0, 100, 101)", 50, r.waitFor(0, 0, 100, 101));
            r.same("waitFor(0, 0, 100, 1081)", 1, r.waitFor(0, 0, 100, 1081));
        });
    }

    private static void waitForNothingElse() {
        Bounds.test("whether the policy can be made does not matter: its lease ends meanwhile", r -> {
            r.calm().lease(0, 0, 1);
            r.heatTo(20);
            r.same("waitFor(0, 0, 100, 101)", 10, r.waitFor(0, 0, 100, 101));
        });
        Bounds.test("it is what pass and premium then answer", r -> {
            r.calm().lease(0, 0, 200);
            r.weaken(0, 57);
            r.set(6, 3);
            int wait = r.waitFor(0, 0, 37, 400);
            // (10 + heat + 43) * 37 * 100 / 1000 + 1 is 400 at a heat of 55.
            r.same("waitFor(0, 0, 37, 400)", 15, wait);
            r.pass(wait - 1);
            r.same("one tick ahead of it", 411, r.premium(0, 0, 37));
            r.pass(1);
            r.same("then", 400, r.premium(0, 0, 37));
        });
        Bounds.test("changes nothing", r -> r.busy().leavesAll("waitFor(0, 0, 9, 9)", o -> o.waitFor(0, 0, 9, 9)));
    }

    private static void waitForRefused() {
        Bounds.test("IndexOutOfBoundsException if there is no such core",
            r -> r.busy().noIndex("waitFor(v, 0, 1, 1)", (o, v) -> o.waitFor(v, 0, 1, 1), -1, 64));
        Bounds.test("IndexOutOfBoundsException if there is no such insurer: one beyond the last",
            r -> r.busy().noIndex("waitFor(0, v, 1, 1)", (o, v) -> o.waitFor(0, v, 1, 1), -1, 2));
        Bounds.test("IndexOutOfBoundsException if there is no such insurer: one beyond the third", r -> {
            for (int i = 0; i < 3; i++) {
                r.addInsurer(0, 1, 1);
            }
            r.noIndex("waitFor(0, v, 1, 1)", (o, v) -> o.waitFor(0, v, 1, 1), -1, 3);
        });
        Bounds.test("IllegalArgumentException if ticks is out of range",
            r -> r.busy().noArgument("waitFor(0, 0, v, 1)", (o, v) -> o.waitFor(0, 0, v, 1), -1, 0, 201));
        Bounds.test("IllegalArgumentException if most is out of range",
            r -> r.busy().noArgument("waitFor(0, 0, 1, v)", (o, v) -> o.waitFor(0, 0, 1, v), -1, 0, 10001));
        Bounds.test("IndexOutOfBoundsException ahead of IllegalArgumentException", r -> {
            r.calm().noIndex("waitFor(v, 0, 0, 1)", (o, v) -> o.waitFor(v, 0, 0, 1), -1, 64);
            r.noIndex("waitFor(0, v, 1, 0)", (o, v) -> o.waitFor(0, v, 1, 0), -1, 1);
            r.noIndex("waitFor(0, v, 201, 10001)", (o, v) -> o.waitFor(0, v, 201, 10001), -1, 1);
        });
    }
}

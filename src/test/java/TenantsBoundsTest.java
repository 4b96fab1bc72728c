/** Boundary cases of the promises 1 to 4, and of the ranges that "Terms" names for them: tenants, insurers, settings. */
public final class TenantsBoundsTest {

    private static final int[] FIRST = {2, 4, 3, 5, 20, 60, 2, 10};
    private static final int[] MOST = {20, 20, 20, 50, 100, 100, 10, 50};

    public static void main(String[] args) {
        Bounds.promise("promise 1, CoreLeases");
        newObject();
        Bounds.promise("promise 2, addTenant");
        addTenant();
        addTenantFull();
        Bounds.promise("promise 3, addInsurer");
        addInsurer();
        addInsurerFull();
        Bounds.promise("promise 4, set");
        for (int setting = 0; setting < 8; setting++) {
            set(setting);
        }
        setRefused();
        Bounds.end();
    }

    // ---- promise 1

    private static void newObject() {
        Bounds.test("NONE is -1", r -> r.same("NONE", -1, CoreLeases.NONE));
        Bounds.test("the time, the heat, the money of the house and all that is counted are at first 0", r -> {
            for (int what = 0; what <= 18; what++) {
                r.same("count(" + what + ")", 0, r.count(what));
            }
        });
        Bounds.test("the settings as they are at first", r -> {
            for (int setting = 0; setting < 8; setting++) {
                r.same("setting(" + setting + ")", FIRST[setting], r.setting(setting));
            }
        });
        Bounds.test("a core has at first the bit 0, the strength 100, no lease, no policy, nothing owed or lost", r -> {
            for (int core = 0; core < 64; core += 7) {
                r.sameCore("new", core, 0, 100, -1, 0, -1, 0, 0, -1, 0);
            }
        });
        Bounds.test("without tenants: there is no tenant 0", r -> {
            r.noIndex("tenant(0, 0)", o -> o.tenant(0, 0));
            r.noIndex("run(0)", o -> o.run(0));
            r.noIndex("atRisk(0)", o -> o.atRisk(0));
            r.noIndex("lease(0, 0, 1)", o -> o.lease(0, 0, 1));
        });
        Bounds.test("without insurers: there is no insurer 0", r -> {
            r.noIndex("insurer(0, 0)", o -> o.insurer(0, 0));
            r.noIndex("insure(0, 0, 1)", o -> o.insure(0, 0, 1));
            r.noIndex("premium(0, 0, 1)", o -> o.premium(0, 0, 1));
            r.noIndex("waitFor(0, 0, 1, 1)", o -> o.waitFor(0, 0, 1, 1));
            r.same("cheapest(0, 1, 1)", CoreLeases.NONE, r.cheapest(0, 1, 1));
        });
        Bounds.test("with an empty buffer", r -> {
            r.same("firstError()", 0, r.firstError());
            r.same("clearBuffer()", 0, r.clearBuffer());
        });
        Bounds.test("nothing is owed, saved or leased", r -> {
            r.same("owed(0, 0)", CoreLeases.NONE, r.owed(0, 0));
            r.same("owed(0, 1)", CoreLeases.NONE, r.owed(0, 1));
            r.same("gentlest()", CoreLeases.NONE, r.gentlest());
            r.same("savable(1)", 0, r.savable(1));
            r.noState("writeBack()", o -> o.writeBack());
            r.noState("undo()", o -> o.undo());
            r.noState("read(0)", o -> o.read(0));
            r.noState("write(0, true)", o -> o.write(0, true));
        });
        Bounds.test("two objects share nothing", r -> {
            long fresh = new CoreLeases().digest();
            r.busy();
            r.same("digest() of another object", fresh, new CoreLeases().digest());
            r.same("digest() of the same calls on another", r.again().digest(), r.digest());
        });
    }

    // ---- promise 2

    private static void addTenant() {
        Bounds.test("money: 0 is the least", r -> {
            r.same("addTenant(0)", 0, r.addTenant(0));
            r.same("tenant(0, 0)", 0, r.tenant(0, 0));
        });
        Bounds.test("money: 10000 is the greatest", r -> {
            r.same("addTenant(10000)", 0, r.addTenant(10000));
            r.same("tenant(0, 0)", 10000, r.tenant(0, 0));
        });
        Bounds.test("IllegalArgumentException if money is out of range",
            r -> r.noArgument("addTenant", (o, v) -> o.addTenant(v), -1, 10001));
        Bounds.test("a refused addTenant changes nothing, the saved states neither",
            r -> r.busy().noArgument("addTenant", (o, v) -> o.addTenant(v), -1, 10001));
        Bounds.test("tenants are numbered from 0, and begin with money alone", r -> {
            for (int i = 0; i < 6; i++) {
                r.same("addTenant", i, r.addTenant(100 + i));
                r.same("count(2)", i + 1, r.count(2));
                for (int what = 0; what <= 5; what++) {
                    r.same("tenant(" + i + ", " + what + ")", what == 0 ? 100 + i : 0, r.tenant(i, what));
                }
            }
        });
    }

    private static void addTenantFull() {
        Bounds.test("the sixth is added", r -> {
            tenants(r, 5);
            r.same("addTenant(1)", 5, r.addTenant(1));
            r.same("count(2)", 6, r.count(2));
        });
        Bounds.test("IllegalStateException if there are 6 tenants", r -> {
            tenants(r, 6);
            r.noState("addTenant(0)", o -> o.addTenant(0));
            r.noState("addTenant(10000)", o -> o.addTenant(10000));
        });
        Bounds.test("IllegalArgumentException ahead of IllegalStateException", r -> {
            tenants(r, 6);
            r.noArgument("addTenant, the seventh", (o, v) -> o.addTenant(v), -1, 10001);
        });
        Bounds.test("undo makes room for another sixth, which has nothing of the one before", r -> {
            r.calm();
            tenants(r, 3);
            r.addTenant(500);
            r.lease(0, 5, 9);
            r.undo();
            r.undo();
            r.same("count(2)", 5, r.count(2));
            r.noIndex("tenant(5, 0)", o -> o.tenant(5, 0));
            r.same("addTenant(3)", 5, r.addTenant(3));
            r.same("tenant(5, 0)", 3, r.tenant(5, 0));
            r.same("tenant(5, 1)", 0, r.tenant(5, 1));
        });
    }

    private static void tenants(Run r, int many) {
        for (int i = 0; i < many; i++) {
            r.addTenant(1);
        }
    }

    // ---- promise 3

    private static void addInsurer() {
        Bounds.test("fund 0, rate 1, cover 1 are the least", r -> {
            r.same("addInsurer(0, 1, 1)", 0, r.addInsurer(0, 1, 1));
            sameInsurer(r, 0, 1, 1);
        });
        Bounds.test("fund 10000, rate 200, cover 500 are the greatest", r -> {
            r.same("addInsurer(10000, 200, 500)", 0, r.addInsurer(10000, 200, 500));
            sameInsurer(r, 10000, 200, 500);
        });
        Bounds.test("IllegalArgumentException if the fund is out of range",
            r -> r.noArgument("addInsurer(v, 1, 1)", (o, v) -> o.addInsurer(v, 1, 1), -1, 10001));
        Bounds.test("IllegalArgumentException if the rate is out of range",
            r -> r.noArgument("addInsurer(0, v, 1)", (o, v) -> o.addInsurer(0, v, 1), -1, 0, 201));
        Bounds.test("IllegalArgumentException if the cover is out of range",
            r -> r.noArgument("addInsurer(0, 1, v)", (o, v) -> o.addInsurer(0, 1, v), -1, 0, 501));
        Bounds.test("a refused addInsurer changes nothing, the saved states neither",
            r -> r.busy().noArgument("addInsurer(v, v, v)", (o, v) -> o.addInsurer(v, v, v), 0, 501));
        Bounds.test("insurers are numbered from 0, and begin with fund, rate and cover alone", r -> {
            for (int i = 0; i < 3; i++) {
                r.same("addInsurer", i, r.addInsurer(10 + i, 20 + i, 30 + i));
                r.same("count(3)", i + 1, r.count(3));
                int[] due = {10 + i, 20 + i, 30 + i, 0, 0, 0, 0};
                for (int what = 0; what <= 6; what++) {
                    r.same("insurer(" + i + ", " + what + ")", due[what], r.insurer(i, what));
                }
            }
        });
    }

    private static void sameInsurer(Run r, int... due) {
        for (int what = 0; what < due.length; what++) {
            r.same("insurer(0, " + what + ")", due[what], r.insurer(0, what));
        }
    }

    private static void addInsurerFull() {
        Bounds.test("the third is added", r -> {
            insurers(r, 2);
            r.same("addInsurer(9, 9, 9)", 2, r.addInsurer(9, 9, 9));
            r.same("count(3)", 3, r.count(3));
        });
        Bounds.test("IllegalStateException if there are 3 insurers", r -> {
            insurers(r, 3);
            r.noState("addInsurer(0, 1, 1)", o -> o.addInsurer(0, 1, 1));
            r.noState("addInsurer(10000, 200, 500)", o -> o.addInsurer(10000, 200, 500));
        });
        Bounds.test("IllegalArgumentException ahead of IllegalStateException", r -> {
            insurers(r, 3);
            r.noArgument("addInsurer(v, 1, 1), the fourth", (o, v) -> o.addInsurer(v, 1, 1), -1, 10001);
            r.noArgument("addInsurer(0, v, 1), the fourth", (o, v) -> o.addInsurer(0, v, 1), 0, 201);
            r.noArgument("addInsurer(0, 1, v), the fourth", (o, v) -> o.addInsurer(0, 1, v), 0, 501);
        });
        Bounds.test("undo makes room for another third, which has nothing of the one before", r -> {
            r.calm().addInsurer(1, 1, 1);
            r.addInsurer(7, 7, 7);
            r.lease(0, 0, 9);
            r.insure(0, 2, 9);
            for (int i = 0; i < 3; i++) {
                r.undo();
            }
            r.same("count(3)", 2, r.count(3));
            r.noIndex("insurer(2, 0)", o -> o.insurer(2, 0));
            r.same("addInsurer(0, 9, 9)", 2, r.addInsurer(0, 9, 9));
            r.same("insurer(2, 0)", 0, r.insurer(2, 0));
            r.same("insurer(2, 6)", 0, r.insurer(2, 6));
        });
    }

    private static void insurers(Run r, int many) {
        for (int i = 0; i < many; i++) {
            r.addInsurer(0, 1, 1);
        }
    }

    // ---- promise 4

    private static void set(int setting) {
        int first = FIRST[setting];
        int most = MOST[setting];
        String told = "setting " + setting;
        Bounds.test(told + ": 0 is the least", r -> {
            r.same("set to 0", first, r.set(setting, 0));
            sameSettings(r, setting, 0);
        });
        Bounds.test(told + ": " + most + " is the greatest", r -> {
            r.same("set to the greatest", first, r.set(setting, most));
            sameSettings(r, setting, most);
            r.same("set to 1", most, r.set(setting, 1));
        });
        Bounds.test(told + ": IllegalArgumentException if value is out of range",
            r -> r.noArgument(told, (o, v) -> o.set(setting, v), -1, most + 1));
        Bounds.test(told + ": a refused set changes nothing, the saved states neither",
            r -> r.busy().noArgument(told, (o, v) -> o.set(setting, v), -1, most + 1));
        Bounds.test(told + ": the same value again is undoable too", r -> {
            r.same("set", first, r.set(setting, first));
            r.same("count(18)", 1, r.count(18));
            r.same("undo()", 0, r.undo());
            sameSettings(r, setting, first);
        });
        Bounds.test(told + ": undo brings the previous value", r -> {
            r.set(setting, most);
            r.undo();
            sameSettings(r, setting, first);
        });
    }

    private static void sameSettings(Run r, int changed, int value) {
        for (int setting = 0; setting < 8; setting++) {
            r.same("setting(" + setting + ")", setting == changed ? value : FIRST[setting], r.setting(setting));
        }
    }

    private static void setRefused() {
        Bounds.test("IndexOutOfBoundsException if there is no such setting",
            r -> r.noIndex("set(v, 0)", (o, v) -> o.set(v, 0), -1, 8));
        Bounds.test("IndexOutOfBoundsException ahead of IllegalArgumentException", r -> {
            r.noIndex("set(v, -1)", (o, v) -> o.set(v, -1), -1, 8);
            r.noIndex("set(v, 101)", (o, v) -> o.set(v, 101), -1, 8);
        });
        Bounds.test("a refused set changes nothing, the saved states neither",
            r -> r.busy().noIndex("set(v, 0)", (o, v) -> o.set(v, 0), -1, 8));
    }
}

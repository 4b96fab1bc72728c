import java.util.function.IntSupplier;

/** For each promise of the document what it asks for: ordinary inputs, the edges that it names, wrong inputs. */
public final class PromiseTest {

    private static int checks = 0;
    private static int wrong = 0;
    private static int promise = 0;

    public static void main(String[] args) {
        newObject();
        addTenant();
        addInsurer();
        set();
        lease();
        leaseRefused();
        insure();
        insurePaysClaims();
        insurePaysInOrder();
        insureRefused();
        renew();
        write();
        writeInHeat();
        writeDisturbs();
        writeOverwrites();
        read();
        readRefused();
        writeBack();
        writeBackOrder();
        pass();
        passDelays();
        passDelaysAll();
        passEnds();
        passLimit();
        append();
        clearBuffer();
        firstError();
        run();
        runStops();
        runRefused();
        undo();
        undoOfEach();
        undoOfEnds();
        core();
        tenant();
        insurer();
        owed();
        weakest();
        count();
        setting();
        premium();
        cheapest();
        waitFor();
        ifRead();
        gentlest();
        savable();
        atRisk();
        backShare();
        digest();
        System.out.println("checks of promises that were right: " + (checks - wrong) + " of " + checks);
        System.exit(wrong == 0 ? 0 : 1);
    }

    // ---- how an answer is checked

    private static void same(String call, long want, long got) {
        checks++;
        if (want != got) {
            wrong++;
            System.out.println("promise " + promise + ": " + call + " answered " + got + ", due is " + want);
        }
    }

    private static void refused(CoreLeases x, Class<?> want, String call, IntSupplier what) {
        long before = x.digest();
        String got = "no exception";
        try {
            what.getAsInt();
        } catch (RuntimeException e) {
            got = e.getClass().getName();
        }
        checks++;
        if (!got.equals(want.getName())) {
            wrong++;
            System.out.println("promise " + promise + ": " + call + " threw " + got + ", due is " + want.getName());
        }
        same(call + " changes nothing", before, x.digest());
    }

    private static void noIndex(CoreLeases x, String call, IntSupplier what) {
        refused(x, IndexOutOfBoundsException.class, call, what);
    }

    private static void noArgument(CoreLeases x, String call, IntSupplier what) {
        refused(x, IllegalArgumentException.class, call, what);
    }

    private static void noState(CoreLeases x, String call, IntSupplier what) {
        refused(x, IllegalStateException.class, call, what);
    }

    private static final int[] TOO_LITTLE_OR_MUCH = {Integer.MIN_VALUE, -1000, 1000, Integer.MAX_VALUE};

    /** The tenants 0 and 1 with 10000 each, an insurer with nothing, and no heat or rent. */
    private static CoreLeases calm() {
        CoreLeases x = new CoreLeases();
        x.addTenant(10000);
        x.addTenant(10000);
        x.addInsurer(0, 100, 50);
        x.set(0, 0);
        x.set(1, 0);
        x.set(2, 0);
        return x;
    }

    /** Leases a core to the tenant 0 for long and writes a 1. */
    private static void one(CoreLeases x, int core) {
        x.lease(core, 0, 200);
        x.write(core, true);
    }

    private static void type(CoreLeases x, String text) {
        x.clearBuffer();
        for (int i = 0; i < text.length(); i++) {
            x.append(text.charAt(i));
        }
    }

    // ---- the promises

    private static void newObject() {
        promise = 1;
        CoreLeases x = new CoreLeases();
        for (int i = 0; i <= 18; i++) {
            same("count(" + i + ")", 0, x.count(i));
        }
        int[] first = {2, 4, 3, 5, 20, 60, 2, 10};
        for (int i = 0; i < 8; i++) {
            same("setting(" + i + ")", first[i], x.setting(i));
        }
        int[] properties = {0, 100, -1, 0, -1, 0, 0, -1, 0};
        CoreLeases y = x;
        for (int core = 0; core < 64; core++) {
            // No more than 512 calls are promised on one object.
            y = core % 8 == 0 ? new CoreLeases() : y;
            for (int i = 0; i <= 8; i++) {
                same("core(" + core + ", " + i + ")", properties[i], y.core(core, i));
            }
        }
        same("NONE", -1, CoreLeases.NONE);
        same("clearBuffer()", 0, x.clearBuffer());
        noState(x, "undo()", x::undo);
        noState(x, "writeBack()", x::writeBack);
        noIndex(x, "tenant(0, 0)", () -> x.tenant(0, 0));
        noIndex(x, "insurer(0, 0)", () -> x.insurer(0, 0));
        same("owed(0, 0)", -1, x.owed(0, 0));
    }

    private static void addTenant() {
        promise = 2;
        CoreLeases x = new CoreLeases();
        int[] money = {0, 10000, 1, 9999, 7, 7};
        for (int i = 0; i < 6; i++) {
            noArgument(x, "addTenant(-1)", () -> x.addTenant(-1));
            noArgument(x, "addTenant(10001)", () -> x.addTenant(10001));
            same("addTenant", i, x.addTenant(money[i]));
            same("count(2)", i + 1, x.count(2));
            same("count(18)", i + 1, x.count(18));
            int[] due = {money[i], 0, 0, 0, 0, 0};
            for (int what = 0; what < 6; what++) {
                same("tenant(i, " + what + ")", due[what], x.tenant(i, what));
            }
        }
        noState(x, "addTenant(0) as the 7th", () -> x.addTenant(0));
        noArgument(x, "addTenant(-1) as the 7th", () -> x.addTenant(-1));
        noArgument(x, "addTenant(MIN)", () -> x.addTenant(Integer.MIN_VALUE));
        noArgument(x, "addTenant(MAX)", () -> x.addTenant(Integer.MAX_VALUE));
        x.undo();
        same("count(2) behind undo", 5, x.count(2));
        same("addTenant behind undo", 5, x.addTenant(3));
        same("money behind undo", 3, x.tenant(5, 0));
    }

    private static void addInsurer() {
        promise = 3;
        CoreLeases x = new CoreLeases();
        int[][] terms = {{0, 1, 1}, {10000, 200, 500}, {5, 6, 7}};
        for (int i = 0; i < 3; i++) {
            int[] t = terms[i];
            same("addInsurer", i, x.addInsurer(t[0], t[1], t[2]));
            int[] due = {t[0], t[1], t[2], 0, 0, 0, 0};
            for (int what = 0; what < 7; what++) {
                same("insurer(i, " + what + ")", due[what], x.insurer(i, what));
            }
            same("count(3)", i + 1, x.count(3));
            same("count(18)", i + 1, x.count(18));
        }
        int[][] bad = {{-1, 1, 1}, {10001, 1, 1}, {0, 0, 1}, {0, 201, 1}, {0, 1, 0}, {0, 1, 501}};
        for (int[] b : bad) {
            noArgument(x, "addInsurer, wrong, as the 4th", () -> x.addInsurer(b[0], b[1], b[2]));
        }
        noState(x, "addInsurer as the 4th", () -> x.addInsurer(0, 1, 1));
        x.undo();
        for (int[] b : bad) {
            noArgument(x, "addInsurer, wrong", () -> x.addInsurer(b[0], b[1], b[2]));
        }
        same("count(3) behind undo", 2, x.count(3));
    }

    private static void set() {
        promise = 4;
        CoreLeases x = new CoreLeases();
        int[] most = {20, 20, 20, 50, 100, 100, 10, 50};
        for (int i = 0; i < 8; i++) {
            int s = i;
            int first = x.setting(s);
            noArgument(x, "set to -1", () -> x.set(s, -1));
            noArgument(x, "set to more than the most", () -> x.set(s, most[s] + 1));
            same("set to the most", first, x.set(s, most[s]));
            same("setting", most[s], x.setting(s));
            same("set to 0", most[s], x.set(s, 0));
            same("setting", 0, x.setting(s));
            same("set to the same", 0, x.set(s, 0));
            same("undo", Math.min(6, 3 * s + 3) - 1, x.undo());
            same("undo", Math.min(6, 3 * s + 3) - 2, x.undo());
            same("setting behind undo", most[s], x.setting(s));
            x.set(s, 0);
            x.set(s, 0);
        }
        noIndex(x, "set(-1, 0)", () -> x.set(-1, 0));
        noIndex(x, "set(8, 0)", () -> x.set(8, 0));
        noIndex(x, "set(8, -1)", () -> x.set(8, -1));
        for (int v : TOO_LITTLE_OR_MUCH) {
            noIndex(x, "set(" + v + ", 0)", () -> x.set(v, 0));
            noArgument(x, "set(0, " + v + ")", () -> x.set(0, v));
        }
    }

    private static void lease() {
        promise = 5;
        CoreLeases x = new CoreLeases();
        x.addTenant(10);
        x.addTenant(4000);
        same("lease(5, 0, 4)", 2, x.lease(5, 0, 4));
        same("house", 8, x.count(16));
        same("tenant", 0, x.core(5, 2));
        same("ticks left", 4, x.core(5, 3));
        same("lease(6, 0, 1) for all the money", 0, x.lease(6, 0, 1));
        same("lease(63, 1, 200)", 3600, x.lease(63, 1, 200));
        same("leased to 0", 2, x.tenant(0, 1));
        same("leased to 1", 1, x.tenant(1, 1));
        same("leased", 3, x.count(4));
        same("house", 410, x.count(16));
        same("count(18)", 5, x.count(18));
        x.set(0, 20);
        same("lease(0, 1, 180) for all the money", 0, x.lease(0, 1, 180));
        x.write(5, true);
        x.pass(4);
        same("the lease ended", -1, x.core(5, 2));
        x.set(0, 0);
        same("lease(5, 1, 1) for nothing", 0, x.lease(5, 1, 1));
        same("the bit stays", 1, x.core(5, 0));
        x.undo();
        same("tenant behind undo", -1, x.core(5, 2));
    }

    private static void leaseRefused() {
        promise = 5;
        CoreLeases x = new CoreLeases();
        x.addTenant(10);
        x.lease(5, 0, 1);
        noState(x, "lease of a leased core", () -> x.lease(5, 0, 1));
        noState(x, "lease for too much", () -> x.lease(6, 0, 5));
        noArgument(x, "lease for 0 ticks", () -> x.lease(5, 0, 0));
        noArgument(x, "lease for 201 ticks", () -> x.lease(5, 0, 201));
        noIndex(x, "lease(-1, 0, 0)", () -> x.lease(-1, 0, 0));
        noIndex(x, "lease(64, 0, 1)", () -> x.lease(64, 0, 1));
        noIndex(x, "lease(5, -1, 0)", () -> x.lease(5, -1, 0));
        noIndex(x, "lease(5, 1, 1)", () -> x.lease(5, 1, 1));
        for (int v : TOO_LITTLE_OR_MUCH) {
            noIndex(x, "lease(" + v + ", 0, 1)", () -> x.lease(v, 0, 1));
            noIndex(x, "lease(0, " + v + ", 1)", () -> x.lease(0, v, 1));
            noArgument(x, "lease(0, 0, " + v + ")", () -> x.lease(0, 0, v));
        }
    }

    private static void insure() {
        promise = 6;
        CoreLeases x = new CoreLeases();
        x.set(0, 0);
        x.addTenant(11);
        x.addInsurer(3, 150, 50);
        x.lease(9, 0, 7);
        same("insure(9, 0, 7) for all the money", 11, x.insure(9, 0, 7));
        same("money", 0, x.tenant(0, 0));
        same("with a policy", 1, x.tenant(0, 2));
        same("fund", 14, x.insurer(0, 0));
        same("policies", 1, x.insurer(0, 3));
        same("premiums", 11, x.insurer(0, 6));
        same("insurer", 0, x.core(9, 4));
        same("ticks left", 7, x.core(9, 5));
        same("count(5)", 1, x.count(5));
        same("count(18)", 5, x.count(18));
        x.undo();
        same("fund behind undo", 3, x.insurer(0, 0));
        same("insurer behind undo", -1, x.core(9, 4));
        CoreLeases y = calm();
        y.set(1, 15);
        y.lease(0, 0, 100);
        y.lease(1, 0, 100);
        y.write(0, true);
        same("the premium of a core with the strength 99 in a heat of 15", 26 * 7 / 10 + 1, y.insure(0, 0, 7));
        same("the least premium", 25 / 10 + 1, y.insure(1, 0, 1));
    }

    private static void insurePaysClaims() {
        promise = 6;
        CoreLeases x = calm();
        x.set(5, 100);
        one(x, 0);
        x.set(5, 0);
        one(x, 1);
        x.set(5, 100);
        x.insure(0, 0, 20);
        x.insure(1, 0, 20);
        x.lease(8, 1, 200);
        x.lease(9, 1, 200);
        x.write(8, false);
        x.write(9, false);
        same("lost", 2, x.count(13));
        same("claims that wait", 2, x.insurer(0, 5));
        same("claims of the tenant that wait", 2, x.tenant(0, 5));
        int fund = x.insurer(0, 0);
        same("fund", 46, fund);
        int before = x.tenant(0, 0);
        int price = x.insure(8, 0, 20);
        same("price", 23, price);
        same("fund: one claim was paid", 46 + 23 - 50, x.insurer(0, 0));
        same("claims that were paid", 1, x.insurer(0, 4));
        same("claims that wait", 1, x.insurer(0, 5));
        same("money", before + 50, x.tenant(0, 0));
        same("paid for claims", 50, x.tenant(0, 4));
        same("price", 23, x.insure(9, 0, 20));
        same("fund: not enough", 19 + 23, x.insurer(0, 0));
        same("claims that wait", 1, x.insurer(0, 5));
        x.lease(20, 1, 200);
        same("price", 8, x.insure(20, 0, 7));
        same("fund: all of it was paid for the second claim", 0, x.insurer(0, 0));
        same("claims that wait", 0, x.insurer(0, 5));
        same("claims of the tenant that wait", 0, x.tenant(0, 5));
        same("premiums", 4 * 23 + 8, x.insurer(0, 6));
    }

    private static void insurePaysInOrder() {
        promise = 6;
        CoreLeases x = claimsOfMany();
        int[] came = {3, 2, 1, 2, 2};
        sameClaims("the claims came", x, came);
        same("fund of the insurer 0", 36, x.insurer(0, 0));
        same("fund of the insurer 1", 24, x.insurer(1, 0));
        x.lease(40, 2, 200);
        same("price", 201, x.insure(40, 0, 200));
        int[] one = {2, 2, 1, 1, 2};
        sameClaims("the first claim on the insurer 0 was paid", x, one);
        same("fund", 0, x.insurer(0, 0));
        same("paid to the tenant 1", 237, x.tenant(1, 4));
        same("money of the tenant 1", 1000 - 24 + 237, x.tenant(1, 0));
        same("paid to the others", 0, x.tenant(0, 4) + x.tenant(2, 4));
        x.lease(41, 2, 200);
        same("price", 201, x.insure(41, 1, 200));
        sameClaims("the first claim on the insurer 1 was paid", x, new int[] {2, 1, 0, 1, 2});
        same("paid to the tenant 0", 225, x.tenant(0, 4));
        x.undo();
        x.undo();
        sameClaims("undo", x, one);
        x.undo();
        x.undo();
        sameClaims("undo", x, came);
        x.lease(40, 2, 200);
        x.insure(40, 0, 200);
        sameClaims("once more", x, one);
        same("paid to the tenant 1", 237, x.tenant(1, 4));
    }

    /** Claims on the insurer 0 of the tenants 1, 2, 1, and among them on the insurer 1 of the tenants 0, 2. */
    private static CoreLeases claimsOfMany() {
        CoreLeases x = new CoreLeases();
        for (int setting : new int[] {0, 1, 2, 5}) {
            x.set(setting, 0);
        }
        for (int i = 0; i < 3; i++) {
            x.addTenant(1000);
        }
        x.addInsurer(0, 100, 237);
        x.addInsurer(0, 100, 225);
        int[] tenants = {1, 0, 2, 1, 2};
        int[] insurers = {0, 1, 0, 0, 1};
        for (int core = 0; core < 5; core++) {
            x.lease(core, tenants[core], 100);
            x.write(core, true);
            x.insure(core, insurers[core], 10);
        }
        x.set(5, 100);
        x.lease(7, 0, 100);
        x.write(7, false);
        return x;
    }

    private static void sameClaims(String when, CoreLeases x, int[] due) {
        same(when + ": claims on the insurer 0", due[0], x.insurer(0, 5));
        same(when + ": claims on the insurer 1", due[1], x.insurer(1, 5));
        for (int i = 0; i < 3; i++) {
            same(when + ": claims of the tenant " + i, due[2 + i], x.tenant(i, 5));
        }
    }

    private static void insureRefused() {
        promise = 6;
        CoreLeases x = new CoreLeases();
        x.set(0, 0);
        x.addTenant(10);
        x.addInsurer(0, 150, 50);
        x.addInsurer(0, 1, 50);
        noState(x, "insure of a core that is not leased", () -> x.insure(9, 0, 1));
        x.lease(9, 0, 7);
        noState(x, "insure for one more than the money", () -> x.insure(9, 0, 7));
        noState(x, "insure for longer than the lease", () -> x.insure(9, 1, 8));
        same("insure", 2, x.insure(9, 0, 1));
        noState(x, "insure of a core with a policy", () -> x.insure(9, 0, 1));
        x.pass(1);
        same("insure again", 2, x.insure(9, 0, 1));
        x.undo();
        x.pass(1);
        same("left", 5, x.core(9, 3));
        noState(x, "insure for longer than what is left", () -> x.insure(9, 1, 6));
        same("insure for as long as what is left", 1, x.insure(9, 1, 5));
        noArgument(x, "insure for 0 ticks", () -> x.insure(9, 0, 0));
        noArgument(x, "insure for 201 ticks", () -> x.insure(8, 0, 201));
        noIndex(x, "insure(-1, 0, 1)", () -> x.insure(-1, 0, 1));
        noIndex(x, "insure(64, 0, 0)", () -> x.insure(64, 0, 0));
        noIndex(x, "insure(9, -1, 1)", () -> x.insure(9, -1, 1));
        noIndex(x, "insure(9, 2, 0)", () -> x.insure(9, 2, 0));
        for (int v : TOO_LITTLE_OR_MUCH) {
            noIndex(x, "insure(" + v + ", 0, 1)", () -> x.insure(v, 0, 1));
            noIndex(x, "insure(0, " + v + ", 1)", () -> x.insure(0, v, 1));
            noArgument(x, "insure(0, 0, " + v + ")", () -> x.insure(0, 0, v));
        }
    }

    private static void renew() {
        promise = 7;
        CoreLeases x = new CoreLeases();
        x.addTenant(10000);
        noState(x, "renew without money", () -> x.renew(3));
        x.lease(3, 0, 5);
        noState(x, "renew of a leased core", () -> x.renew(3));
        x.write(3, true);
        x.pass(5);
        same("the house has the price", 10, x.count(16));
        same("renew", 99, x.renew(3));
        same("strength", 100, x.core(3, 1));
        same("bit", 0, x.core(3, 0));
        same("lost", 0, x.core(3, 8));
        same("house", 0, x.count(16));
        same("spent", 10, x.count(17));
        x.undo();
        same("bit behind undo", 1, x.core(3, 0));
        same("spent behind undo", 0, x.count(17));
        x.set(7, 11);
        noState(x, "renew for one more than the house has", () -> x.renew(3));
        x.set(7, 0);
        same("renew for nothing", 99, x.renew(3));
        same("renew again", 100, x.renew(3));
        same("house", 10, x.count(16));
        noIndex(x, "renew(-1)", () -> x.renew(-1));
        noIndex(x, "renew(64)", () -> x.renew(64));
    }

    private static void write() {
        promise = 8;
        CoreLeases x = new CoreLeases();
        x.addTenant(10000);
        x.lease(0, 0, 200);
        x.set(1, 20);
        int[] strength = {99, 98, 96, 93, 89, 84, 79};
        int[] heat = {20, 40, 60, 80, 100, 100, 100};
        for (int i = 0; i < 7; i++) {
            same("write(0, true)", 1, x.write(0, true));
            same("strength", strength[i], x.core(0, 1));
            same("heat", heat[i], x.count(1));
        }
        for (int i = 0; i < 11; i++) {
            x.write(0, true);
        }
        same("strength", 24, x.core(0, 1));
        x.set(4, 19);
        same("write at the least strength", 1, x.write(0, true));
        x.set(4, 15);
        same("write below the least strength", 0, x.write(0, true));
        same("strength", 14, x.core(0, 1));
        x.write(0, true);
        same("write(0, false)", 0, x.write(0, false));
        same("bit", 0, x.core(0, 0));
        x.write(0, true);
        same("strength is at least 0", 0, x.core(0, 1));
        x.write(0, true);
        same("strength is at least 0", 0, x.core(0, 1));
        same("no bit is lost by a write", 0, x.core(0, 8));
        same("count(18)", 6, x.count(18));
        x.set(4, 0);
        same("write without a least strength", 1, x.write(0, true));
        x.undo();
        same("bit behind undo", 0, x.core(0, 0));
        noState(x, "write of a core that is not leased", () -> x.write(1, true));
        for (int core : new int[] {-1, 64, Integer.MIN_VALUE, Integer.MAX_VALUE}) {
            noIndex(x, "write(" + core + ")", () -> x.write(core, false));
        }
    }

    private static void writeInHeat() {
        promise = 8;
        int[] heats = {0, 24, 25, 49, 50, 74, 75, 99, 100};
        int[] falls = {1, 1, 2, 2, 3, 3, 4, 4, 5};
        for (int i = 0; i < heats.length; i++) {
            CoreLeases x = calm();
            x.set(6, 0);
            x.lease(0, 0, 9);
            x.lease(1, 0, 9);
            for (int heat = 0; heat < heats[i]; heat += 20) {
                x.set(1, Math.min(20, heats[i] - heat));
                x.write(1, false);
            }
            same("heat", heats[i], x.count(1));
            x.write(0, false);
            same("strength behind a write in a heat of " + heats[i], 100 - falls[i], x.core(0, 1));
        }
    }

    private static void writeDisturbs() {
        promise = 8;
        CoreLeases x = calm();
        x.set(5, 0);
        int[] around = {2, 3, 8, 11, 14, 15, 24, 27, 59, 9, 34};
        for (int core : around) {
            one(x, core);
        }
        x.set(5, 99);
        x.lease(10, 0, 50);
        x.write(10, true);
        same("none has a strength less than 99", 0, x.count(13));
        same("the bit stays", 1, x.core(10, 0));
        x.set(5, 100);
        x.write(10, true);
        // Of the row 1: 8, 9, 11, 14, 15; of the column 2: 2, 34.
        int[] lost = {1, 0, 1, 1, 1, 1, 0, 0, 0, 1, 1};
        for (int i = 0; i < around.length; i++) {
            same("lost of core " + around[i], lost[i], x.core(around[i], 8));
            same("bit of core " + around[i], 1 - lost[i], x.core(around[i], 0));
        }
        same("the core itself is not disturbed", 1, x.core(10, 0));
        same("lost by disturbing", 7, x.count(13));
        same("lost on cores of the tenant", 7, x.tenant(0, 3));
        x.write(10, true);
        same("a 0 is not lost", 7, x.count(13));
        CoreLeases y = calm();
        y.lease(0, 0, 1);
        y.write(0, true);
        y.pass(1);
        y.lease(1, 1, 1);
        y.set(5, 100);
        y.write(1, false);
        same("a bit on a core that is not leased is lost", 1, y.core(0, 8));
        same("but by no tenant", 0, y.tenant(0, 3) + y.tenant(1, 3));
    }

    private static void writeOverwrites() {
        promise = 8;
        CoreLeases x = calm();
        one(x, 0);
        x.insure(0, 0, 50);
        x.read(0);
        same("owed", 1, x.count(6));
        same("write", 0, x.write(0, false));
        same("owed", 0, x.count(6));
        same("due", -1, x.core(0, 7));
        same("overwritten", 1, x.count(14));
        same("nothing is lost", 0, x.core(0, 8));
        same("the policy goes on", 0, x.core(0, 4));
        x.write(0, true);
        same("overwritten once", 1, x.count(14));
    }

    private static void read() {
        promise = 9;
        CoreLeases x = new CoreLeases();
        x.addTenant(10000);
        x.lease(7, 0, 100);
        same("read of a 0", 0, x.read(7));
        same("heat", 3, x.count(1));
        same("strength", 99, x.core(7, 1));
        same("reads", 1, x.count(8));
        same("destroyed", 0, x.count(9));
        same("owed", 0, x.count(6));
        x.write(7, true);
        x.pass(3);
        same("read of a 1", 1, x.read(7));
        same("bit", 0, x.core(7, 0));
        same("heat", 4, x.count(1));
        same("strength", 97, x.core(7, 1));
        same("reads", 2, x.count(8));
        same("destroyed", 1, x.count(9));
        same("owed", 1, x.core(7, 6));
        same("due", 8, x.core(7, 7));
        same("lost", 0, x.core(7, 8));
        same("count(18)", 6, x.count(18));
        x.undo();
        same("bit behind undo", 1, x.core(7, 0));
        same("reads behind undo", 1, x.count(8));
        CoreLeases y = calm();
        y.set(5, 0);
        one(y, 1);
        one(y, 0);
        y.set(5, 100);
        same("read that disturbs", 1, y.read(0));
        same("lost by disturbing", 1, y.count(13));
        same("the bit of the other", 0, y.core(1, 0));
        y.set(2, 20);
        y.lease(40, 0, 9);
        for (int i = 1; i <= 6; i++) {
            y.read(40);
            same("heat", Math.min(100, 20 * i), y.count(1));
        }
        same("strength", 84, y.core(40, 1));
    }

    private static void readRefused() {
        promise = 9;
        CoreLeases x = calm();
        noState(x, "read of a core that is not leased", () -> x.read(0));
        one(x, 0);
        x.read(0);
        noState(x, "read of a core for which a write-back is owed", () -> x.read(0));
        for (int core : new int[] {-1, 64, Integer.MIN_VALUE, Integer.MAX_VALUE}) {
            noIndex(x, "read(" + core + ")", () -> x.read(core));
        }
        x.writeBack();
        same("read again", 1, x.read(0));
    }

    private static void writeBack() {
        promise = 10;
        CoreLeases x = new CoreLeases();
        x.addTenant(10000);
        noState(x, "writeBack()", x::writeBack);
        one(x, 12);
        x.read(12);
        same("heat", 7, x.count(1));
        x.set(4, 97);
        same("writeBack()", 12, x.writeBack());
        same("heat", 11, x.count(1));
        same("strength", 97, x.core(12, 1));
        same("bit", 1, x.core(12, 0));
        same("became 1", 1, x.count(10));
        same("owed", 0, x.count(6));
        x.undo();
        same("owed behind undo", 1, x.count(6));
        x.set(4, 98);
        same("writeBack() of a weak core", 12, x.writeBack());
        same("bit", 0, x.core(12, 0));
        same("became 1", 0, x.count(10));
        same("lost by weakness", 1, x.count(11));
        same("lost on the core", 1, x.core(12, 8));
        same("lost by the tenant", 1, x.tenant(0, 3));
        same("owed", 0, x.count(6));
        noState(x, "writeBack()", x::writeBack);
        CoreLeases y = calm();
        one(y, 0);
        y.set(5, 0);
        one(y, 1);
        y.insure(0, 0, 50);
        y.read(0);
        y.set(4, 100);
        y.set(5, 100);
        y.writeBack();
        same("the other is disturbed", 1, y.count(13));
        same("the claim is paid at once", 1, y.insurer(0, 4));
        same("the fund", 6, y.insurer(0, 0));
    }

    private static void writeBackOrder() {
        promise = 10;
        CoreLeases x = calm();
        x.set(5, 0);
        int[] cores = {5, 4, 3, 2, 1, 0};
        for (int core : cores) {
            one(x, core);
        }
        int[] patience = {5, 3, 5, 0, 3, 50};
        for (int i = 0; i < 6; i++) {
            x.set(3, patience[i]);
            x.read(cores[i]);
        }
        int[] order = {2, 4, 1, 5, 3, 0};
        for (int core : order) {
            same("writeBack()", core, x.writeBack());
        }
        same("owed", 0, x.count(6));
        same("became 1", 6, x.count(10));
    }

    private static void pass() {
        promise = 11;
        CoreLeases x = new CoreLeases();
        x.addTenant(10000);
        x.lease(0, 0, 200);
        for (int i = 0; i < 3; i++) {
            x.write(0, false);
        }
        same("pass(2)", 8, x.pass(2));
        same("time", 2, x.count(0));
        same("lease left", 198, x.core(0, 3));
        same("pass(3)", 2, x.pass(3));
        same("pass(1)", 0, x.pass(1));
        same("pass(100): the heat is at least 0", 0, x.pass(100));
        same("time", 106, x.count(0));
        same("count(18)", 6, x.count(18));
        same("undo", 5, x.undo());
        same("time behind undo", 6, x.count(0));
        x.set(6, 0);
        x.write(0, true);
        same("pass(7) without cooling", 4, x.pass(7));
        x.set(6, 10);
        same("pass(1) with the most cooling", 0, x.pass(1));
        noArgument(x, "pass(0)", () -> x.pass(0));
        noArgument(x, "pass(101)", () -> x.pass(101));
        for (int v : TOO_LITTLE_OR_MUCH) {
            noArgument(x, "pass(" + v + ")", () -> x.pass(v));
        }
    }

    private static void passDelays() {
        promise = 11;
        CoreLeases x = calm();
        x.set(5, 0);
        one(x, 0);
        one(x, 1);
        x.insure(0, 0, 50);
        x.insure(1, 0, 50);
        x.read(0);
        x.pass(1);
        x.read(1);
        x.pass(4);
        same("owed still", 2, x.count(6));
        same("lost by delay", 0, x.count(12));
        x.pass(1);
        same("owed", 1, x.count(6));
        same("lost by delay", 1, x.count(12));
        same("owed for 0", 0, x.core(0, 6));
        same("lost of 0", 1, x.core(0, 8));
        same("lost by the tenant", 1, x.tenant(0, 3));
        same("the policy ended", -1, x.core(0, 4));
        same("its ticks", 0, x.core(0, 5));
        same("the claim was paid", 1, x.insurer(0, 4));
        x.pass(1);
        same("lost by delay", 2, x.count(12));
        same("claims that were paid", 2, x.insurer(0, 4));
        same("fund", 2 * 56 - 2 * 50, x.insurer(0, 0));
        same("nothing is lost by disturbing", 0, x.count(13));
        CoreLeases y = calm();
        one(y, 3);
        y.set(3, 0);
        y.read(3);
        same("due", 0, y.core(3, 7));
        y.pass(1);
        same("no patience", 1, y.count(12));
    }

    private static void passDelaysAll() {
        promise = 11;
        CoreLeases x = calm();
        x.set(5, 0);
        for (int core = 0; core < 64; core++) {
            one(x, core);
        }
        for (int core = 63; core >= 0; core--) {
            x.read(core);
        }
        same("the last one in the order", 0, x.owed(63, 0));
        same("savable(9)", 54, x.savable(9));
        same("savable(1)", 6, x.savable(1));
        x.pass(6);
        same("owed", 0, x.count(6));
        same("lost by delay", 64, x.count(12));
    }

    private static void passEnds() {
        promise = 11;
        CoreLeases x = calm();
        x.lease(0, 0, 3);
        x.lease(1, 0, 3);
        x.lease(2, 1, 5);
        x.insure(0, 0, 2);
        x.insure(1, 0, 3);
        x.write(1, true);
        x.read(1);
        x.pass(1);
        same("policy left", 1, x.core(0, 5));
        same("lease left", 2, x.core(0, 3));
        x.pass(1);
        same("policy of 0", -1, x.core(0, 4));
        same("policy left of 0", 0, x.core(0, 5));
        same("lease left of 0", 1, x.core(0, 3));
        same("policies", 1, x.count(5));
        same("policies of the insurer", 1, x.insurer(0, 3));
        same("owed", 1, x.count(6));
        x.pass(1);
        same("tenant of 0", -1, x.core(0, 2));
        same("lease left of 0", 0, x.core(0, 3));
        same("policy of 1", -1, x.core(1, 4));
        same("leased", 1, x.count(4));
        same("policies", 0, x.count(5));
        same("owed", 0, x.count(6));
        same("dropped", 1, x.count(15));
        same("a bit that is dropped is not lost", 0, x.core(1, 8) + x.count(12) + x.tenant(0, 3));
        same("no claim", 0, x.insurer(0, 4) + x.insurer(0, 5));
        same("lease left of 2", 2, x.core(2, 3));
        CoreLeases y = calm();
        y.lease(0, 0, 6);
        y.insure(0, 0, 6);
        y.write(0, true);
        y.read(0);
        y.pass(6);
        same("lost by delay ahead of the end of the lease", 1, y.count(12));
        same("not dropped", 0, y.count(15));
        same("the claim came ahead of the end of the policy", 1, y.insurer(0, 5));
    }

    private static void passLimit() {
        promise = 11;
        CoreLeases x = new CoreLeases();
        for (int i = 0; i < 99; i++) {
            x.pass(100);
        }
        x.pass(99);
        noState(x, "pass(2) at 9999", () -> x.pass(2));
        noArgument(x, "pass(101) at 9999", () -> x.pass(101));
        same("pass(1) at 9999", 0, x.pass(1));
        same("time", 10000, x.count(0));
        noState(x, "pass(1) at 10000", () -> x.pass(1));
        x.undo();
        same("time behind undo", 9999, x.count(0));
    }

    private static void append() {
        promise = 12;
        CoreLeases x = new CoreLeases();
        noArgument(x, "append(32)", () -> x.append(32));
        noArgument(x, "append(127)", () -> x.append(127));
        for (int i = 1; i <= 60; i++) {
            long before = x.digest();
            same("append", i, x.append(i % 2 == 0 ? 33 : 126));
            same("the digest changes", 1, before != x.digest() ? 1 : 0);
        }
        noState(x, "append of a 61st", () -> x.append(33));
        noArgument(x, "append of a wrong 61st", () -> x.append(32));
        for (int v : TOO_LITTLE_OR_MUCH) {
            noArgument(x, "append(" + v + ")", () -> x.append(v));
        }
        same("not undoable", 0, x.count(18));
        same("the buffer was kept", 60, x.clearBuffer());
    }

    private static void clearBuffer() {
        promise = 13;
        CoreLeases x = new CoreLeases();
        long empty = x.digest();
        same("clearBuffer()", 0, x.clearBuffer());
        type(x, "xyz");
        same("clearBuffer()", 3, x.clearBuffer());
        same("clearBuffer()", 0, x.clearBuffer());
        same("digest", empty, x.digest());
        same("not undoable", 0, x.count(18));
        same("append behind it", 1, x.append('b'));
        same("firstError()", 1, x.firstError());
    }

    private static void firstError() {
        promise = 14;
        String[] right = {"", "r", "r0", "r07", "r70;", "w", "w3", "w34", "w34=", "w34=0", "w77=1;b", "b", "b;", "b;b",
            "t", "t1", "t9;t5;r", "r11;w22=1;b;t3;w"};
        for (String text : right) {
            same("firstError of " + text, text.length(), errorOf(text));
        }
        String[] wrong = {"|x", "|;", "|0", "|R00", "r|8", "r|x", "r|/", "r0|8", "r0|;", "r00|0", "r00|b", "r00|=1",
            "w|8", "w|=", "w0|8", "w0|=", "w00|1", "w00|;", "w00=|2", "w00=|/", "w00=1|1", "w00=0|b", "b|b", "b|0",
            "b;|;", "t|0", "t|:", "t|;", "t1|0", "t9|b", "b;t3;r|9;x", "r00;|8;", "b;|x;y"};
        for (String text : wrong) {
            same("firstError of " + text, text.indexOf('|'), errorOf(text.replace("|", "")));
        }
        StringBuilder longest = new StringBuilder("b");
        for (int i = 0; i < 29; i++) {
            longest.append(";b");
        }
        same("59 characters", 59, errorOf(longest.toString()));
        same("60 characters", 60, errorOf(longest + ";"));
    }

    private static int errorOf(String text) {
        CoreLeases x = new CoreLeases();
        type(x, text);
        long before = x.digest();
        int found = x.firstError();
        same("firstError changes nothing", before, x.digest());
        return found;
    }

    private static void run() {
        promise = 15;
        CoreLeases x = new CoreLeases();
        x.addTenant(10000);
        x.lease(19, 0, 100);
        x.lease(56, 0, 100);
        type(x, "w23=1;r23;t2;b;r23;w70=1;w70=0");
        same("run(0)", 7, x.run(0));
        same("the buffer is cleared", 0, x.clearBuffer());
        same("reads", 2, x.count(8));
        same("became 1", 1, x.count(10));
        same("time", 2, x.count(0));
        same("owed", 19, x.owed(0, 0));
        same("due", 7, x.owed(0, 1));
        same("strength", 96, x.core(19, 1));
        same("strength", 98, x.core(56, 1));
        same("bit", 0, x.core(56, 0));
        same("heat", 4 + 3 - 4 + 4 + 3 + 4 + 4, x.count(1));
        same("one saved state", 4, x.count(18));
        same("undo", 3, x.undo());
        same("time behind undo", 0, x.count(0));
        same("strength behind undo", 100, x.core(19, 1));
        type(x, "t9");
        same("run(0) of one step", 1, x.run(0));
        same("time", 9, x.count(0));
    }

    private static void runStops() {
        promise = 15;
        CoreLeases x = calm();
        one(x, 0);
        x.lease(1, 1, 200);
        String[] texts = {"t1;r01;t1", "t1;w01=1;t1", "t1;r02;t1", "t1;w02=0;t1", "t1;b;t1", "r00;r00;t1", "b", "r77"};
        int[] done = {1, 1, 1, 1, 1, 1, 1, 0};
        for (int i = 0; i < texts.length; i++) {
            type(x, texts[i]);
            same("run of " + texts[i], done[i], x.run(0));
            same("the buffer is cleared", 0, x.clearBuffer());
        }
        same("time", 5, x.count(0));
        same("a program without a step that is done is undoable", 5, x.undo());
        same("time", 5, x.count(0));
        same("undo of the write-back", 4, x.undo());
        same("owed behind undo", 1, x.count(6));
        type(x, "b");
        same("a write-back of whatever core", 1, x.run(1));
        CoreLeases y = new CoreLeases();
        y.addTenant(0);
        for (int i = 0; i < 100; i++) {
            y.pass(i == 0 ? 94 : 100);
        }
        type(y, "t2;t1;t4;t1");
        same("run at 9994", 2, y.run(0));
        same("time", 9997, y.count(0));
        type(y, "t2;t2");
        same("run at 9997", 1, y.run(0));
        same("time", 9999, y.count(0));
        type(y, "t1;t1");
        same("run at 9999", 1, y.run(0));
        same("time", 10000, y.count(0));
    }

    private static void runRefused() {
        promise = 15;
        CoreLeases x = calm();
        one(x, 0);
        String[] texts = {"", "r", "r0", "r00;", "w00", "w00=", "t", ";", "b;;b", "b;", "r00x", "x", "t0", "r08"};
        for (String text : texts) {
            type(x, text);
            noArgument(x, "run of " + text, () -> x.run(0));
            noIndex(x, "run(2) of " + text, () -> x.run(2));
        }
        type(x, "b");
        for (int v : new int[] {-1, 2, 6, Integer.MIN_VALUE, Integer.MAX_VALUE}) {
            noIndex(x, "run(" + v + ")", () -> x.run(v));
        }
        same("the buffer stays", 1, x.clearBuffer());
    }

    private static void undo() {
        promise = 16;
        CoreLeases x = new CoreLeases();
        noState(x, "undo()", x::undo);
        long[] before = new long[8];
        for (int i = 0; i < 8; i++) {
            before[i] = x.count(0);
            x.pass(i + 1);
        }
        same("saved", 6, x.count(18));
        type(x, "b;b");
        for (int i = 7; i >= 2; i--) {
            same("undo()", i - 2, x.undo());
            same("time", before[i], x.count(0));
        }
        noState(x, "undo() of the oldest, which is dropped", x::undo);
        same("the buffer is not restored", 3, x.clearBuffer());
        for (int i = 0; i < 14; i++) {
            x.set(0, i);
            x.set(1, i);
            x.undo();
        }
        same("saved: the undo has taken one of six", 5, x.count(18));
        for (int i = 13; i >= 9; i--) {
            same("setting", i, x.setting(0));
            x.undo();
        }
        same("setting", 8, x.setting(0));
        noState(x, "undo()", x::undo);
    }

    /** A full state, each change of it, and undo: the digest tells whether all is as it was. */
    private static void undoOfEach() {
        promise = 16;
        int calls = 12;
        for (int i = 0; i < calls; i++) {
            CoreLeases x = full();
            x.undo();
            x.undo();
            x.undo();
            long before = x.digest();
            change(x, i);
            same("change " + i + " is a change", 1, before != x.digest() ? 1 : 0);
            same("undo of change " + i, 3, x.undo());
            same("digest behind undo of change " + i, before, x.digest());
        }
    }

    private static void undoOfEnds() {
        promise = 16;
        CoreLeases x = calm();
        x.lease(0, 0, 9);
        x.insure(0, 0, 4);
        x.pass(9);
        x.lease(0, 1, 50);
        x.insure(0, 0, 30);
        for (int i = 0; i < 3; i++) {
            x.undo();
        }
        same("tenant behind undo", 0, x.core(0, 2));
        same("lease left behind undo", 9, x.core(0, 3));
        same("policy left behind undo", 4, x.core(0, 5));
        x.pass(4);
        same("the policy ends when it did", -1, x.core(0, 4));
        x.pass(5);
        same("the lease ends when it did", -1, x.core(0, 2));
    }

    private static CoreLeases full() {
        CoreLeases x = calm();
        x.set(0, 1);
        x.set(5, 0);
        x.set(1, 20);
        for (int core = 0; core < 10; core++) {
            one(x, core);
        }
        x.lease(20, 1, 4);
        for (int core = 0; core < 5; core++) {
            x.insure(core, 0, 40);
        }
        x.read(0);
        x.read(1);
        x.read(5);
        x.set(5, 100);
        x.set(3, 0);
        x.write(9, true);
        x.set(4, 90);
        x.write(9, true);
        x.set(4, 20);
        x.write(9, true);
        x.set(7, 1);
        x.set(7, 2);
        x.set(7, 3);
        return x;
    }

    private static void change(CoreLeases x, int kind) {
        switch (kind) {
            case 0:
                x.addTenant(5);
                break;
            case 1:
                x.addInsurer(5, 6, 7);
                break;
            case 2:
                x.set(2, 7);
                break;
            case 3:
                x.lease(40, 1, 9);
                break;
            case 4:
                x.insure(20, 0, 3);
                break;
            case 5:
                x.renew(50);
                break;
            case 6:
                x.write(1, true);
                break;
            case 7:
                x.read(8);
                break;
            case 8:
                x.writeBack();
                break;
            case 9:
                x.pass(9);
                break;
            case 10:
                type(x, "b;t6;w02=1;r02");
                x.run(0);
                break;
            default:
                x.pass(100);
                break;
        }
    }

    private static void core() {
        promise = 17;
        CoreLeases x = calm();
        x.set(5, 0);
        x.lease(0, 1, 30);
        x.insure(0, 0, 20);
        x.write(0, true);
        x.pass(3);
        int[] due = {1, 99, 1, 27, 0, 17, 0, -1, 0};
        for (int i = 0; i < 9; i++) {
            same("core(0, " + i + ")", due[i], x.core(0, i));
        }
        x.read(0);
        int[] read = {0, 98, 1, 27, 0, 17, 1, 8, 0};
        for (int i = 0; i < 9; i++) {
            same("core(0, " + i + ")", read[i], x.core(0, i));
        }
        x.pass(6);
        int[] late = {0, 98, 1, 21, -1, 0, 0, -1, 1};
        for (int i = 0; i < 9; i++) {
            same("core(0, " + i + ")", late[i], x.core(0, i));
        }
        x.set(7, 0);
        x.pass(21);
        x.renew(0);
        int[] renewed = {0, 100, -1, 0, -1, 0, 0, -1, 1};
        for (int i = 0; i < 9; i++) {
            same("core(0, " + i + ")", renewed[i], x.core(0, i));
        }
        for (int core : new int[] {-1, 64, Integer.MIN_VALUE, Integer.MAX_VALUE}) {
            noIndex(x, "core(" + core + ", 0)", () -> x.core(core, 0));
            noIndex(x, "core(" + core + ", -1)", () -> x.core(core, -1));
        }
        for (int what : new int[] {-1, 9, Integer.MIN_VALUE, Integer.MAX_VALUE}) {
            noArgument(x, "core(63, " + what + ")", () -> x.core(63, what));
        }
    }

    private static void tenant() {
        promise = 18;
        CoreLeases x = calm();
        x.set(5, 0);
        one(x, 0);
        one(x, 1);
        x.lease(2, 1, 200);
        x.insure(0, 0, 40);
        x.insure(1, 0, 40);
        x.insure(2, 0, 1);
        int[] before = {10000 - 2 * 45, 2, 2, 0, 0, 0};
        for (int i = 0; i < 6; i++) {
            same("tenant(0, " + i + ")", before[i], x.tenant(0, i));
        }
        x.set(5, 100);
        x.write(2, true);
        int[] behind = {10000 - 2 * 45 + 50, 2, 0, 2, 50, 1};
        for (int i = 0; i < 6; i++) {
            same("tenant(0, " + i + ")", behind[i], x.tenant(0, i));
        }
        int[] other = {10000 - 2, 1, 1, 0, 0, 0};
        for (int i = 0; i < 6; i++) {
            same("tenant(1, " + i + ")", other[i], x.tenant(1, i));
        }
        for (int tenant : new int[] {-1, 2, 6, Integer.MIN_VALUE, Integer.MAX_VALUE}) {
            noIndex(x, "tenant(" + tenant + ", 0)", () -> x.tenant(tenant, 0));
            noIndex(x, "tenant(" + tenant + ", 9)", () -> x.tenant(tenant, 9));
        }
        for (int what : new int[] {-1, 6, Integer.MIN_VALUE, Integer.MAX_VALUE}) {
            noArgument(x, "tenant(0, " + what + ")", () -> x.tenant(0, what));
        }
    }

    private static void insurer() {
        promise = 19;
        CoreLeases x = calm();
        x.addInsurer(200, 10, 120);
        x.set(5, 0);
        for (int core = 0; core < 4; core++) {
            one(x, core);
            x.insure(core, core == 3 ? 0 : 1, 50);
        }
        x.lease(7, 1, 20);
        x.insure(7, 1, 20);
        int[] before = {200 + 3 * 6 + 3, 10, 120, 4, 0, 0, 3 * 6 + 3};
        for (int i = 0; i < 7; i++) {
            same("insurer(1, " + i + ")", before[i], x.insurer(1, i));
        }
        x.set(5, 100);
        x.write(7, false);
        int[] behind = {221 - 120, 10, 120, 1, 1, 2, 21};
        for (int i = 0; i < 7; i++) {
            same("insurer(1, " + i + ")", behind[i], x.insurer(1, i));
        }
        int[] other = {56 - 50, 100, 50, 0, 1, 0, 56};
        for (int i = 0; i < 7; i++) {
            same("insurer(0, " + i + ")", other[i], x.insurer(0, i));
        }
        for (int insurer : new int[] {-1, 2, 3, Integer.MIN_VALUE, Integer.MAX_VALUE}) {
            noIndex(x, "insurer(" + insurer + ", 0)", () -> x.insurer(insurer, 0));
            noIndex(x, "insurer(" + insurer + ", 9)", () -> x.insurer(insurer, 9));
        }
        for (int what : new int[] {-1, 7, Integer.MIN_VALUE, Integer.MAX_VALUE}) {
            noArgument(x, "insurer(0, " + what + ")", () -> x.insurer(0, what));
        }
    }

    private static void owed() {
        promise = 20;
        CoreLeases x = calm();
        x.set(5, 0);
        int[] cores = {9, 63, 0};
        int[] patience = {7, 4, 7};
        for (int i = 0; i < 3; i++) {
            one(x, cores[i]);
            x.set(3, patience[i]);
            x.read(cores[i]);
        }
        int[] order = {63, 9, 0, -1, -1};
        int[] due = {4, 7, 7, -1, -1};
        for (int i = 0; i < 5; i++) {
            same("owed(" + i + ", 0)", order[i], x.owed(i, 0));
            same("owed(" + i + ", 1)", due[i], x.owed(i, 1));
        }
        same("owed(63, 0)", -1, x.owed(63, 0));
        x.write(9, false);
        same("owed(1, 0)", 0, x.owed(1, 0));
        same("owed(2, 0)", -1, x.owed(2, 0));
        for (int v : new int[] {-1, 64, Integer.MIN_VALUE, Integer.MAX_VALUE}) {
            noArgument(x, "owed(" + v + ", 0)", () -> x.owed(v, 0));
        }
        for (int v : new int[] {-1, 2, Integer.MIN_VALUE, Integer.MAX_VALUE}) {
            noArgument(x, "owed(0, " + v + ")", () -> x.owed(0, v));
            noArgument(x, "owed(60, " + v + ")", () -> x.owed(60, v));
        }
    }

    private static void weakest() {
        promise = 21;
        CoreLeases x = calm();
        for (int i = 0; i < 64; i++) {
            same("weakest(" + i + ")", i, x.weakest(i));
        }
        for (int core : new int[] {63, 20, 30}) {
            x.lease(core, 0, 200);
            x.write(core, true);
        }
        x.write(30, true);
        int[] due = {30, 20, 63, 0, 1, 2};
        for (int i = 0; i < due.length; i++) {
            same("weakest(" + i + ")", due[i], x.weakest(i));
        }
        same("weakest(22)", 19, x.weakest(22));
        same("weakest(23)", 21, x.weakest(23));
        same("weakest(63)", 62, x.weakest(63));
        for (int v : new int[] {-1, 64, Integer.MIN_VALUE, Integer.MAX_VALUE}) {
            noArgument(x, "weakest(" + v + ")", () -> x.weakest(v));
        }
    }

    private static void count() {
        promise = 22;
        CoreLeases x = calm();
        x.set(0, 1);
        x.set(1, 4);
        x.set(2, 3);
        x.set(5, 0);
        for (int core = 0; core < 6; core++) {
            one(x, core);
        }
        x.lease(50, 1, 1);
        x.insure(0, 0, 10);
        x.insure(1, 0, 20);
        for (int core = 0; core < 4; core++) {
            x.read(core);
        }
        x.read(50);
        x.writeBack();
        x.set(4, 100);
        x.writeBack();
        x.set(4, 20);
        x.write(2, true);
        x.pass(6);
        x.set(5, 100);
        x.write(5, true);
        x.renew(50);
        int[] due = {6, 0, 2, 1, 6, 0, 0, 1, 5, 4, 1, 1, 1, 3, 1, 0, 6 * 200 + 1 - 10, 10, 6};
        // The heat: 6 writes, 5 reads, 2 write-backs, a write, 6 ticks, a write.
        due[1] = 6 * 4 + 5 * 3 + 2 * 4 + 4 - 6 * 2 + 4;
        for (int i = 0; i <= 18; i++) {
            same("count(" + i + ")", due[i], x.count(i));
        }
        for (int v : new int[] {-1, 19, Integer.MIN_VALUE, Integer.MAX_VALUE}) {
            noArgument(x, "count(" + v + ")", () -> x.count(v));
        }
    }

    private static void setting() {
        promise = 23;
        CoreLeases x = new CoreLeases();
        int[] first = {2, 4, 3, 5, 20, 60, 2, 10};
        for (int i = 0; i < 8; i++) {
            x.set(i, i + 1);
            for (int k = 0; k < 8; k++) {
                same("setting(" + k + ")", k <= i ? k + 1 : first[k], x.setting(k));
            }
        }
        for (int v : new int[] {-1, 8, Integer.MIN_VALUE, Integer.MAX_VALUE}) {
            noIndex(x, "setting(" + v + ")", () -> x.setting(v));
        }
    }

    private static void premium() {
        promise = 24;
        CoreLeases x = calm();
        x.addInsurer(0, 1, 1);
        x.addInsurer(0, 200, 1);
        same("premium(0, 1, 1)", 1, x.premium(0, 1, 1));
        same("premium(0, 1, 99)", 1, x.premium(0, 1, 99));
        same("premium(0, 1, 100)", 2, x.premium(0, 1, 100));
        same("premium(0, 2, 200)", 401, x.premium(0, 2, 200));
        x.set(1, 20);
        x.lease(0, 0, 3);
        for (int i = 0; i < 30; i++) {
            x.write(0, false);
        }
        same("the most", 8401, x.premium(0, 2, 200));
        same("of a strong core in the heat", 110 * 7 * 100 / 1000 + 1, x.premium(63, 0, 7));
        same("of a weak core", 210 * 7 * 100 / 1000 + 1, x.premium(0, 0, 7));
        noArgument(x, "premium(0, 0, 0)", () -> x.premium(0, 0, 0));
        noArgument(x, "premium(0, 0, 201)", () -> x.premium(0, 0, 201));
        noIndex(x, "premium(-1, 0, 0)", () -> x.premium(-1, 0, 0));
        noIndex(x, "premium(64, 0, 1)", () -> x.premium(64, 0, 1));
        noIndex(x, "premium(0, -1, 0)", () -> x.premium(0, -1, 0));
        noIndex(x, "premium(0, 3, 1)", () -> x.premium(0, 3, 1));
        for (int v : TOO_LITTLE_OR_MUCH) {
            noIndex(x, "premium(" + v + ", 0, 1)", () -> x.premium(v, 0, 1));
            noIndex(x, "premium(0, " + v + ", 1)", () -> x.premium(0, v, 1));
            noArgument(x, "premium(0, 0, " + v + ")", () -> x.premium(0, 0, v));
        }
    }

    private static void cheapest() {
        promise = 25;
        CoreLeases x = new CoreLeases();
        same("cheapest without insurers", -1, x.cheapest(0, 1, 1));
        x.addInsurer(0, 40, 100);
        x.addInsurer(0, 20, 50);
        x.addInsurer(0, 20, 80);
        same("cheapest(0, 1, 100)", 1, x.cheapest(0, 1, 100));
        same("cheapest(0, 50, 100)", 1, x.cheapest(0, 50, 100));
        same("cheapest(0, 51, 100)", 2, x.cheapest(0, 51, 100));
        same("cheapest(0, 80, 200)", 2, x.cheapest(0, 80, 200));
        same("cheapest(0, 81, 200)", 0, x.cheapest(0, 81, 200));
        same("cheapest(0, 100, 200)", 0, x.cheapest(0, 100, 200));
        same("cheapest(0, 101, 200)", -1, x.cheapest(0, 101, 200));
        same("the premiums are the same by rounding", 0, x.cheapest(63, 1, 1));
        noArgument(x, "cheapest(0, 0, 1)", () -> x.cheapest(0, 0, 1));
        noArgument(x, "cheapest(0, 501, 1)", () -> x.cheapest(0, 501, 1));
        noArgument(x, "cheapest(0, 1, 0)", () -> x.cheapest(0, 1, 0));
        noArgument(x, "cheapest(0, 1, 201)", () -> x.cheapest(0, 1, 201));
        for (int v : new int[] {-1, 64, Integer.MIN_VALUE, Integer.MAX_VALUE}) {
            noIndex(x, "cheapest(" + v + ", 0, 1)", () -> x.cheapest(v, 0, 1));
        }
        same("cheapest(0, 500, 1)", -1, x.cheapest(0, 500, 1));
    }

    private static void waitFor() {
        promise = 26;
        CoreLeases x = calm();
        x.lease(0, 0, 200);
        same("no wait", 0, x.waitFor(0, 0, 100, 101));
        same("for one tick", 0, x.waitFor(0, 0, 1, 2));
        same("never for one tick", -1, x.waitFor(0, 0, 1, 1));
        same("never", -1, x.waitFor(0, 0, 100, 100));
        x.set(1, 20);
        x.write(0, true);
        x.write(0, true);
        x.write(0, true);
        // The heat is 60, the strength 96: the premium is (74 - 2 * wait) * 10 + 1.
        same("premium", 741, x.premium(0, 0, 100));
        same("waitFor 741", 0, x.waitFor(0, 0, 100, 741));
        same("waitFor 740", 1, x.waitFor(0, 0, 100, 740));
        same("waitFor 721", 1, x.waitFor(0, 0, 100, 721));
        same("waitFor 141", 30, x.waitFor(0, 0, 100, 141));
        same("waitFor 140", -1, x.waitFor(0, 0, 100, 140));
        same("waitFor 1", -1, x.waitFor(0, 0, 100, 1));
        same("waitFor 10000", 0, x.waitFor(0, 0, 200, 10000));
        x.set(6, 0);
        same("without cooling", -1, x.waitFor(0, 0, 100, 740));
        x.set(6, 1);
        same("as long as 60", 60, x.waitFor(0, 0, 100, 141));
        x.set(6, 2);
        for (int i = 0; i < 100; i++) {
            x.pass(100);
        }
        x.lease(1, 0, 1);
        x.write(1, true);
        same("the limit of the time does not matter", 10, x.waitFor(1, 0, 100, 111));
        waitForRefused(x);
    }

    private static void waitForRefused(CoreLeases x) {
        noArgument(x, "waitFor(0, 0, 0, 1)", () -> x.waitFor(0, 0, 0, 1));
        noArgument(x, "waitFor(0, 0, 201, 1)", () -> x.waitFor(0, 0, 201, 1));
        noArgument(x, "waitFor(0, 0, 1, 0)", () -> x.waitFor(0, 0, 1, 0));
        noArgument(x, "waitFor(0, 0, 1, 10001)", () -> x.waitFor(0, 0, 1, 10001));
        for (int v : new int[] {-1, 64, Integer.MIN_VALUE, Integer.MAX_VALUE}) {
            noIndex(x, "waitFor(" + v + ", 0, 1, 1)", () -> x.waitFor(v, 0, 1, 1));
            noIndex(x, "waitFor(0, " + v + ", 0, 0)", () -> x.waitFor(0, v, 0, 0));
        }
        noIndex(x, "waitFor(0, 1, 1, 1)", () -> x.waitFor(0, 1, 1, 1));
    }

    private static void ifRead() {
        promise = 27;
        CoreLeases x = calm();
        x.set(5, 0);
        int[] ones = {0, 1, 2, 9, 63};
        for (int core : ones) {
            one(x, core);
        }
        x.insure(2, 0, 9);
        x.insure(63, 0, 9);
        x.set(2, 20);
        x.set(5, 100);
        int[][] due = {{1, 2, 20, 98, 1}, {1, 3, 20, 98, 1}, {1, 2, 20, 98, 0}};
        for (int core = 0; core < 3; core++) {
            for (int what = 0; what < 5; what++) {
                same("ifRead(" + core + ", " + what + ")", due[core][what], x.ifRead(core, what));
            }
        }
        same("ifRead of a core that is not leased", 99, x.ifRead(7, 3));
        same("ifRead(7, 0)", 0, x.ifRead(7, 0));
        same("ifRead(7, 1)", 4, x.ifRead(7, 1));
        same("ifRead(7, 4)", 2, x.ifRead(7, 4));
        same("ifRead(20, 1)", 0, x.ifRead(20, 1));
        x.set(5, 0);
        x.read(0);
        same("ifRead(0, 0) where a write-back is owed", 0, x.ifRead(0, 0));
        x.lease(30, 1, 200);
        for (int i = 0; i < 5; i++) {
            x.read(30);
        }
        same("the heat is at most 100", 100, x.ifRead(0, 2));
        same("the strength falls by 5 in the most heat", x.core(63, 1) - 5, x.ifRead(63, 3));
        x.set(1, 20);
        for (int i = 0; i < 20; i++) {
            x.write(63, true);
        }
        same("the strength is at least 0", 0, x.ifRead(63, 3));
        for (int v : new int[] {-1, 64, Integer.MIN_VALUE, Integer.MAX_VALUE}) {
            noIndex(x, "ifRead(" + v + ", 9)", () -> x.ifRead(v, 9));
        }
        for (int v : new int[] {-1, 5, Integer.MIN_VALUE, Integer.MAX_VALUE}) {
            noArgument(x, "ifRead(0, " + v + ")", () -> x.ifRead(0, v));
        }
    }

    private static void gentlest() {
        promise = 28;
        CoreLeases x = calm();
        x.set(5, 0);
        same("gentlest()", -1, x.gentlest());
        x.lease(60, 0, 200);
        same("gentlest() without a 1", -1, x.gentlest());
        one(x, 0);
        one(x, 1);
        one(x, 2);
        one(x, 9);
        same("the lowest number", 0, x.gentlest());
        x.write(0, true);
        same("the greatest strength", 1, x.gentlest());
        x.set(5, 100);
        // Reads would lose: of 0 two, of 1 three, of 2 two, of 9 one.
        same("the fewest lost", 9, x.gentlest());
        x.set(5, 99);
        same("now 0 alone can be lost, by a read of 1 or 2", 9, x.gentlest());
        x.set(5, 0);
        x.write(9, true);
        x.read(1);
        same("a core for which a write-back is owed cannot be read", 2, x.gentlest());
        x.lease(30, 1, 1);
        x.write(30, true);
        x.write(2, true);
        x.write(2, true);
        same("a core of another tenant", 30, x.gentlest());
        x.pass(1);
        same("a core that is not leased cannot be read", 0, x.gentlest());
    }

    private static void savable() {
        promise = 29;
        CoreLeases x = calm();
        x.set(5, 0);
        same("savable(1) without any", 0, x.savable(1));
        x.set(3, 2);
        for (int core = 0; core < 8; core++) {
            one(x, core);
        }
        for (int core = 0; core < 8; core++) {
            x.read(core);
        }
        // Behind three ticks the rest is lost: three rounds are in time.
        int[] due = {0, 3, 6, 8, 8, 8, 8, 8, 8, 8};
        for (int pace = 1; pace <= 9; pace++) {
            same("savable(" + pace + ")", due[pace], x.savable(pace));
        }
        x.writeBack();
        x.writeBack();
        same("savable(1) behind two write-backs", 3, x.savable(1));
        same("savable(9) behind two write-backs", 6, x.savable(9));
        x.undo();
        x.undo();
        x.set(4, 98);
        same("savable(9) with weak cores", 0, x.savable(9));
        x.set(4, 97);
        same("savable(9) with cores of just that strength", 8, x.savable(9));
        x.set(1, 20);
        same("savable(9) in heat", 2, x.savable(9));
        savableByLease();
        for (int v : new int[] {0, 10, -1, Integer.MIN_VALUE, Integer.MAX_VALUE}) {
            noArgument(x, "savable(" + v + ")", () -> x.savable(v));
        }
    }

    private static void savableByLease() {
        CoreLeases x = calm();
        x.set(5, 0);
        x.lease(0, 0, 200);
        x.lease(1, 0, 1);
        x.lease(2, 0, 200);
        for (int core = 0; core < 3; core++) {
            x.write(core, true);
        }
        for (int core = 0; core < 3; core++) {
            x.read(core);
        }
        long before = x.digest();
        same("savable(1): one is dropped", 2, x.savable(1));
        same("savable(2)", 3, x.savable(2));
        same("savable changes nothing", before, x.digest());
        x.set(3, 5);
        for (int i = 0; i < 100; i++) {
            x.pass(i < 99 ? 100 : 99);
        }
        x.lease(5, 1, 50);
        x.lease(6, 1, 50);
        x.write(5, true);
        x.write(6, true);
        x.read(5);
        x.read(6);
        same("time", 9999, x.count(0));
        same("savable: the limit of the time does not matter", 2, x.savable(1));
    }

    private static void atRisk() {
        promise = 30;
        CoreLeases x = calm();
        x.set(5, 0);
        for (int core : new int[] {0, 1, 2, 16, 24}) {
            one(x, core);
        }
        x.lease(3, 1, 200);
        x.write(3, true);
        same("nothing is fragile", 0, x.atRisk(0));
        x.set(5, 100);
        // A read of 0 would lose 1, 2, 16, 24 of the tenant 0 and 3 of the tenant 1.
        same("atRisk(0)", 4, x.atRisk(0));
        same("atRisk(1)", 1, x.atRisk(1));
        x.set(5, 0);
        x.read(0);
        x.set(5, 100);
        // 0 cannot be read: a read of 3 would lose 1 and 2.
        same("atRisk(0)", 2, x.atRisk(0));
        x.pass(6);
        same("atRisk(0) when 0 is lost and can be read", 4, x.atRisk(0));
        x.addTenant(0);
        same("atRisk(2)", 0, x.atRisk(2));
        for (int v : new int[] {-1, 3, 6, Integer.MIN_VALUE, Integer.MAX_VALUE}) {
            noIndex(x, "atRisk(" + v + ")", () -> x.atRisk(v));
        }
        x.pass(100);
        x.pass(100);
        same("no core can be read", 0, x.atRisk(0));
    }

    private static void backShare() {
        promise = 31;
        CoreLeases x = calm();
        x.set(5, 0);
        sameBits(0.0, x.backShare());
        for (int core = 0; core < 3; core++) {
            one(x, core);
            x.read(core);
        }
        sameBits(0.0, x.backShare());
        x.writeBack();
        sameBits(1.0 / 3.0, x.backShare());
        x.writeBack();
        sameBits(2.0 / 3.0, x.backShare());
        x.writeBack();
        sameBits(1.0, x.backShare());
    }

    private static void sameBits(double want, double got) {
        same("backShare()", Double.doubleToLongBits(want), Double.doubleToLongBits(got));
    }

    private static void digest() {
        promise = 32;
        same("digest()", new Run().toldDigest(""), new CoreLeases().digest());
        Run y = new Run().calm();
        y.set(3, 1);
        y.ones(0, 1, 2, 3, 4, 5, 6, 7);
        for (int core = 0; core < 8; core++) {
            y.read(core);
        }
        same("savable(1)", 2, y.savable(1));
        same("savable(2)", 4, y.savable(2));
        same("savable(3)", 6, y.savable(3));
        same("savable(4)", 8, y.savable(4));
        same("digest()", y.toldDigest(""), y.digest());
        Run x = new Run().busy();
        x.clearBuffer();
        String text = "";
        for (int i = 0; i < 100; i++) {
            same("digest() in step " + i, x.toldDigest(text), x.digest());
            if (i % 9 == 0) {
                text += (char) (33 + i % 90);
                x.append(33 + i % 90);
            } else {
                changeForDigest(x, i);
            }
        }
    }

    private static void changeForDigest(Run x, int i) {
        int core = i * 7 % 12;
        switch (i % 8) {
            case 0:
                x.set(3, i % 20);
                break;
            case 1:
                x.pass(1 + i % 2);
                break;
            case 2:
            case 3:
                if (x.core(core, 2) != -1) {
                    x.write(core, true);
                }
                break;
            case 4:
            case 5:
            case 6:
                if (x.core(core, 2) != -1 && x.core(core, 6) == 0) {
                    x.read(core);
                }
                break;
            default:
                if (x.count(6) > 0) {
                    x.writeBack();
                }
                break;
        }
    }
}

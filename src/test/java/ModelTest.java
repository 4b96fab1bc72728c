import java.util.Random;
import java.util.function.LongSupplier;

/** Random runs of 512 calls on a CoreLeases and on the Model, whose answers must be the same. */
public final class ModelTest {

    private static final int RUNS = 1500;
    private static final int CALLS = 512;

    private static final int[] MOST = {20, 20, 20, 50, 100, 100, 10, 50};

    // How often each kind of call is made in a run of each style; the kinds are in the order of the cases of act().
    private static final int WILD = 0;
    private static final int CLAIMS = 1;
    private static final int OWED = 2;
    private static final int HOT = 3;
    private static final int LATE = 4;
    private static final int[][] OFTEN = {
        {5, 4, 6, 15, 12, 3, 15, 14, 8, 6, 9, 3},
        {1, 1, 5, 6, 24, 1, 26, 14, 8, 5, 6, 3},
        {1, 1, 8, 6, 6, 1, 18, 28, 14, 8, 7, 2},
        {1, 1, 4, 6, 9, 4, 26, 24, 9, 3, 10, 3},
        {1, 1, 5, 12, 14, 7, 14, 14, 6, 16, 8, 2}};

    private final Random random;
    private final CoreLeases x = new CoreLeases();
    private final Model m = new Model();
    private final int near;
    private final int style;
    private final StringBuilder log = new StringBuilder();
    private int made = 0;

    private ModelTest(long seed) {
        random = new Random(seed);
        near = random.nextInt(64);
        style = random.nextInt(OFTEN.length);
    }

    public static void main(String[] args) {
        int failed = 0;
        for (int seed = 0; seed < RUNS && failed < 5; seed++) {
            ModelTest run = new ModelTest(seed);
            boolean holds = run.begin();
            while (holds && run.made < CALLS) {
                holds = run.oneCall();
            }
            if (!holds) {
                failed++;
                System.out.println("seed " + seed + ":" + run.log);
            }
        }
        System.out.println("random runs that answered as the model: " + (RUNS - failed) + " of " + RUNS);
        System.exit(failed == 0 ? 0 : 1);
    }

    /** Brings a run that is not wild to a state in which much can come: leases, ones and policies of several. */
    private boolean begin() {
        boolean holds = true;
        for (int i = random.nextInt(8); holds && style == LATE && i < 98; i++) {
            holds = same("pass(100)", () -> x.pass(100), () -> m.pass(100));
        }
        for (int i = random.nextInt(6); holds && style != WILD && i >= 0; i--) {
            holds = addTenant(2000 + random.nextInt(8001));
        }
        for (int i = random.nextInt(4); holds && style != WILD && i > 0; i--) {
            holds = addInsurer();
        }
        for (int i = 0; holds && style != WILD && i < MOST.length; i++) {
            holds = random.nextBoolean() || set(i);
        }
        for (int i = random.nextInt(20); holds && style != WILD && i > 0; i--) {
            int core = someCore();
            holds = lease(core) && write(core) && insure(core);
        }
        return holds;
    }

    /** A number mostly from least to most, at times an end of that or one beyond it. */
    private int from(int least, int most) {
        switch (random.nextInt(60)) {
            case 0:
                return least - 1;
            case 1:
                return most + 1;
            case 2:
                return random.nextBoolean() ? Integer.MIN_VALUE : Integer.MAX_VALUE;
            case 3:
            case 4:
            case 5:
                return least;
            case 6:
            case 7:
            case 8:
                return most;
            default:
                return least + random.nextInt(most - least + 1);
        }
    }

    /** Mostly a core on the lines of one core of this run, so that the cores of a run meet. */
    private int someCore() {
        switch (random.nextInt(style == WILD ? 3 : 8)) {
            case 0:
                return from(0, 63);
            case 1:
            case 2:
                return near / 8 * 8 + random.nextInt(8);
            case 3:
            case 4:
                return random.nextInt(8) * 8 + near % 8;
            default:
                return near / 8 * 8 + random.nextInt(style == HOT ? 3 : 6);
        }
    }

    private int someTenant() {
        return from(0, Math.max(0, m.s.tenants.size() - 1));
    }

    private int someInsurer() {
        return from(0, Math.max(0, m.s.insurers.size() - 1));
    }

    private int fewTicks(int most) {
        return random.nextInt(4) == 0 ? from(1, most) : from(1, 12);
    }

    private int someValue(int setting) {
        int most = setting >= 0 && setting < MOST.length ? MOST[setting] : 10;
        boolean disturbing = setting == 5 && (style == CLAIMS || random.nextBoolean());
        if (disturbing || style == HOT && (setting == 1 || setting == 2)) {
            return from(most * 9 / 10, most);
        }
        boolean few = style == OWED && setting == 3 || style == HOT && setting == 6 || setting == 0 && style != WILD;
        return few ? from(0, most / 6) : from(0, most);
    }

    /** Compares the answers to one more call; behind the 512th there is none to compare. */
    private boolean same(String call, LongSupplier mine, LongSupplier due) {
        made++;
        if (made > CALLS) {
            return true;
        }
        String got = answer(mine);
        String want = answer(due);
        log.append(log.length() > 200000 ? "" : " " + call + "=" + want);
        if (!got.equals(want)) {
            log.append(" BUT ANSWERED ").append(got);
        }
        return got.equals(want);
    }

    private static String answer(LongSupplier call) {
        try {
            return Long.toString(call.getAsLong());
        } catch (RuntimeException e) {
            return e.getClass().getSimpleName();
        }
    }

    private boolean oneCall() {
        if (!act()) {
            return false;
        }
        switch (random.nextInt(9)) {
            case 0:
                return askAtRandom();
            case 1:
            case 2:
            case 3:
            case 4:
                return same("digest()", () -> x.digest(), () -> m.digest());
            default:
                return true;
        }
    }

    private int someKind() {
        int left = random.nextInt(100);
        int kind = 0;
        while (kind < OFTEN[style].length - 1 && left >= OFTEN[style][kind]) {
            left -= OFTEN[style][kind];
            kind++;
        }
        return kind;
    }

    private boolean act() {
        int core = someCore();
        switch (someKind()) {
            case 0:
                return addTenant(random.nextInt(3) == 0 ? from(0, 10000) : random.nextInt(300));
            case 1:
                return addInsurer();
            case 2:
                return set(from(0, 7));
            case 3:
                return lease(core);
            case 4:
                return insure(core);
            case 5:
                return same("renew(" + core + ")", () -> x.renew(core), () -> m.renew(core));
            case 6:
                return write(core);
            case 7:
                return same("read(" + core + ")", () -> x.read(core), () -> m.read(core));
            case 8:
                return same("writeBack()", () -> x.writeBack(), () -> m.writeBack());
            case 9:
                return pass();
            case 10:
                return actOnText();
            default:
                return undo();
        }
    }

    private boolean addTenant(int money) {
        return same("addTenant(" + money + ")", () -> x.addTenant(money), () -> m.addTenant(money));
    }

    private boolean addInsurer() {
        int fund = random.nextInt(3) == 0 ? from(0, 10000) : random.nextInt(60);
        int rate = from(1, 200);
        int cover = random.nextInt(3) == 0 ? from(1, 500) : 1 + random.nextInt(60);
        return same("addInsurer(" + fund + "," + rate + "," + cover + ")",
            () -> x.addInsurer(fund, rate, cover), () -> m.addInsurer(fund, rate, cover));
    }

    private boolean set(int setting) {
        int value = someValue(setting);
        return same("set(" + setting + "," + value + ")", () -> x.set(setting, value), () -> m.set(setting, value));
    }

    private boolean lease(int core) {
        int tenant = someTenant();
        int term = random.nextInt(3) == 0 ? fewTicks(200) : from(20, 200);
        return same("lease(" + core + "," + tenant + "," + term + ")",
            () -> x.lease(core, tenant, term), () -> m.lease(core, tenant, term));
    }

    private boolean insure(int core) {
        int insurer = someInsurer();
        int ticks = fewTicks(200);
        return same("insure(" + core + "," + insurer + "," + ticks + ")",
            () -> x.insure(core, insurer, ticks), () -> m.insure(core, insurer, ticks));
    }

    private boolean write(int core) {
        boolean bit = random.nextInt(6) != 0;
        return same("write(" + core + "," + bit + ")", () -> x.write(core, bit), () -> m.write(core, bit));
    }

    private boolean pass() {
        int ticks = random.nextInt(style == LATE ? 2 : 3) == 0 ? from(1, 100) : from(1, 7);
        return same("pass(" + ticks + ")", () -> x.pass(ticks), () -> m.pass(ticks));
    }

    private boolean undo() {
        boolean holds = true;
        for (int i = random.nextInt(3); holds && i >= 0; i--) {
            holds = same("undo()", () -> x.undo(), () -> m.undo());
        }
        return holds;
    }

    private boolean actOnText() {
        int kind = random.nextInt(6);
        if (kind == 0) {
            int code = from(33, 126);
            return same("append(" + code + ")", () -> x.append(code), () -> m.append(code))
                && same("firstError()", () -> x.firstError(), () -> m.firstError());
        }
        if (kind == 1) {
            return same("clearBuffer()", () -> x.clearBuffer(), () -> m.clearBuffer());
        }
        String program = someProgram();
        for (int i = 0; i < program.length(); i++) {
            int code = program.charAt(i);
            if (!same("append(" + (char) code + ")", () -> x.append(code), () -> m.append(code))) {
                return false;
            }
        }
        int tenant = someTenant();
        return same("firstError()", () -> x.firstError(), () -> m.firstError())
            && same("run(" + tenant + ")", () -> x.run(tenant), () -> m.run(tenant));
    }

    private String someProgram() {
        StringBuilder text = new StringBuilder(m.buffer.isEmpty() ? "" : ";");
        int steps = 1 + random.nextInt(8);
        for (int i = 0; i < steps; i++) {
            int core = someCore() & 63;
            String at = "" + core / 8 + core % 8;
            String[] all = {"r" + at, "r" + at, "w" + at + "=1", "w" + at + "=" + random.nextInt(2), "b", "b",
                "t" + (1 + random.nextInt(9))};
            text.append(i == 0 ? "" : ";").append(all[random.nextInt(all.length)]);
        }
        if (random.nextInt(8) == 0) {
            text.setCharAt(random.nextInt(text.length()), "rwbt;=01789/:,2Rx".charAt(random.nextInt(17)));
        }
        if (random.nextInt(12) == 0) {
            text.setLength(random.nextInt(text.length()));
        }
        return text.toString();
    }

    private boolean askAtRandom() {
        int core = someCore();
        int insurer = someInsurer();
        int tenant = someTenant();
        int ticks = fewTicks(200);
        int what = from(0, 8);
        int cover = random.nextBoolean() ? from(1, 500) : from(1, 60);
        int most = random.nextBoolean() ? from(1, 10000) : from(1, 100);
        int place = from(0, 63);
        int number = from(0, 18);
        int pace = from(1, 9);
        int side = from(0, 1);
        return same("core(" + core + "," + what + ")", () -> x.core(core, what), () -> m.core(core, what))
            && same("tenant(" + tenant + "," + what + ")", () -> x.tenant(tenant, what), () -> m.tenant(tenant, what))
            && same("insurer(" + insurer + "," + what + ")",
                () -> x.insurer(insurer, what), () -> m.insurer(insurer, what))
            && same("owed(" + place + "," + side + ")", () -> x.owed(place, side), () -> m.owed(place, side))
            && same("weakest(" + place + ")", () -> x.weakest(place), () -> m.weakest(place))
            && same("count(" + number + ")", () -> x.count(number), () -> m.count(number))
            && same("setting(" + what + ")", () -> x.setting(what), () -> m.setting(what))
            && same("premium(" + core + "," + insurer + "," + ticks + ")",
                () -> x.premium(core, insurer, ticks), () -> m.premium(core, insurer, ticks))
            && same("cheapest(" + core + "," + cover + "," + ticks + ")",
                () -> x.cheapest(core, cover, ticks), () -> m.cheapest(core, cover, ticks))
            && same("waitFor(" + core + "," + insurer + "," + ticks + "," + most + ")",
                () -> x.waitFor(core, insurer, ticks, most), () -> m.waitFor(core, insurer, ticks, most))
            && same("ifRead(" + core + "," + what + ")", () -> x.ifRead(core, what), () -> m.ifRead(core, what))
            && same("gentlest()", () -> x.gentlest(), () -> m.gentlest())
            && same("savable(" + pace + ")", () -> x.savable(pace), () -> m.savable(pace))
            && same("atRisk(" + tenant + ")", () -> x.atRisk(tenant), () -> m.atRisk(tenant))
            && same("backShare()", () -> Double.doubleToLongBits(x.backShare()),
                () -> Double.doubleToLongBits(m.backShare()));
    }
}

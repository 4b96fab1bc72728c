import java.util.Random;
import java.util.function.LongSupplier;

/** Random runs of 512 calls on a CoreLeases and on the Model, whose answers must be the same. */
public final class ModelTest {

    private static final int RUNS = 1000;
    private static final int CALLS = 512;

    private final Random random;
    private final CoreLeases x = new CoreLeases();
    private final Model m = new Model();
    private final int near;
    private final int busy;
    private final StringBuilder log = new StringBuilder();
    private int made = 0;

    private ModelTest(long seed) {
        random = new Random(seed);
        near = random.nextInt(64);
        busy = random.nextInt(3);
    }

    public static void main(String[] args) {
        int failed = 0;
        for (int seed = 0; seed < RUNS && failed < 5; seed++) {
            ModelTest run = new ModelTest(seed);
            boolean holds = true;
            while (holds && run.made < CALLS) {
                holds = run.oneCall();
            }
            if (!holds) {
                failed++;
                System.out.println("seed " + seed + ":" + run.log);
            }
        }
        System.out.println("random runs that answered as the model: " + (RUNS - failed) + " of " + RUNS);
        System.exit(failed == 0 ? 0 : 1);
    }

    /** A number mostly from least to most, at times an end of that or one beyond it. */
    private int from(int least, int most) {
        switch (random.nextInt(40)) {
            case 0:
                return least - 1;
            case 1:
                return most + 1;
            case 2:
                return random.nextBoolean() ? Integer.MIN_VALUE : Integer.MAX_VALUE;
            case 3:
            case 4:
                return least;
            case 5:
            case 6:
                return most;
            default:
                return least + random.nextInt(most - least + 1);
        }
    }

    /** Mostly a core on the lines of one core of this run, so that the cores of a run meet. */
    private int someCore() {
        switch (random.nextInt(busy == 0 ? 3 : 6)) {
            case 0:
                return from(0, 63);
            case 1:
            case 2:
                return near / 8 * 8 + random.nextInt(8);
            default:
                return random.nextInt(8) * 8 + near % 8;
        }
    }

    private int someTenant() {
        return from(0, Math.max(0, m.s.tenants.size() - 1));
    }

    private int someInsurer() {
        return from(0, Math.max(0, m.s.insurers.size() - 1));
    }

    private int fewTicks(int most) {
        return random.nextInt(4) == 0 ? from(1, most) : from(1, 12);
    }

    /** Compares the answers to one more call; behind the 512th there is none to compare. */
    private boolean same(String call, LongSupplier mine, LongSupplier due) {
        made++;
        if (made > CALLS) {
            return true;
        }
        String got = answer(mine);
        String want = answer(due);
        log.append(log.length() > 200000 ? "" : " " + call + "=" + want);
        if (!got.equals(want)) {
            log.append(" BUT ANSWERED ").append(got);
        }
        return got.equals(want);
    }

    private static String answer(LongSupplier call) {
        try {
            return Long.toString(call.getAsLong());
        } catch (RuntimeException e) {
            return e.getClass().getSimpleName();
        }
    }

    private boolean oneCall() {
        if (!actAtRandom()) {
            return false;
        }
        return random.nextInt(6) == 0 ? askAtRandom() : same("digest()", () -> x.digest(), () -> m.digest());
    }

    private boolean actAtRandom() {
        int kind = random.nextInt(100);
        if (kind < 5) {
            int money = random.nextInt(3) == 0 ? from(0, 10000) : random.nextInt(300);
            return same("addTenant(" + money + ")", () -> x.addTenant(money), () -> m.addTenant(money));
        }
        if (kind < 9) {
            int fund = random.nextInt(3) == 0 ? from(0, 10000) : random.nextInt(60);
            int rate = from(1, 200);
            int cover = random.nextInt(3) == 0 ? from(1, 500) : 1 + random.nextInt(60);
            return same("addInsurer(" + fund + "," + rate + "," + cover + ")",
                () -> x.addInsurer(fund, rate, cover), () -> m.addInsurer(fund, rate, cover));
        }
        if (kind < 15) {
            int setting = from(0, 7);
            int[] most = {20, 20, 20, 50, 100, 100, 10, 50};
            int value = from(0, setting >= 0 && setting < 8 ? most[setting] : 10);
            return same("set(" + setting + "," + value + ")", () -> x.set(setting, value), () -> m.set(setting, value));
        }
        if (kind < 45) {
            return actOnCore(kind);
        }
        if (kind < 60) {
            int core = someCore();
            boolean bit = random.nextInt(5) != 0;
            return same("write(" + core + "," + bit + ")", () -> x.write(core, bit), () -> m.write(core, bit));
        }
        if (kind < 74) {
            int core = someCore();
            return same("read(" + core + ")", () -> x.read(core), () -> m.read(core));
        }
        if (kind < 82) {
            return same("writeBack()", () -> x.writeBack(), () -> m.writeBack());
        }
        if (kind < 88) {
            int ticks = busy == 1 ? from(60, 100) : fewTicks(100) % 101;
            return same("pass(" + ticks + ")", () -> x.pass(ticks), () -> m.pass(ticks));
        }
        if (kind < 97) {
            return actOnText();
        }
        return same("undo()", () -> x.undo(), () -> m.undo());
    }

    private boolean actOnCore(int kind) {
        int core = someCore();
        int ticks = fewTicks(200);
        if (kind < 30) {
            int tenant = someTenant();
            int term = random.nextInt(3) == 0 ? ticks : from(20, 200);
            return same("lease(" + core + "," + tenant + "," + term + ")",
                () -> x.lease(core, tenant, term), () -> m.lease(core, tenant, term));
        }
        if (kind < 42) {
            int insurer = someInsurer();
            return same("insure(" + core + "," + insurer + "," + ticks + ")",
                () -> x.insure(core, insurer, ticks), () -> m.insure(core, insurer, ticks));
        }
        return same("renew(" + core + ")", () -> x.renew(core), () -> m.renew(core));
    }

    private boolean actOnText() {
        int kind = random.nextInt(6);
        if (kind == 0) {
            int code = from(33, 126);
            return same("append(" + code + ")", () -> x.append(code), () -> m.append(code))
                && same("firstError()", () -> x.firstError(), () -> m.firstError());
        }
        if (kind == 1) {
            return same("clearBuffer()", () -> x.clearBuffer(), () -> m.clearBuffer());
        }
        String program = someProgram();
        for (int i = 0; i < program.length(); i++) {
            int code = program.charAt(i);
            if (!same("append(" + (char) code + ")", () -> x.append(code), () -> m.append(code))) {
                return false;
            }
        }
        int tenant = someTenant();
        return same("firstError()", () -> x.firstError(), () -> m.firstError())
            && same("run(" + tenant + ")", () -> x.run(tenant), () -> m.run(tenant));
    }

    private String someProgram() {
        StringBuilder text = new StringBuilder(m.buffer.isEmpty() ? "" : ";");
        int steps = 1 + random.nextInt(8);
        for (int i = 0; i < steps; i++) {
            int core = someCore() & 63;
            String at = "" + core / 8 + core % 8;
            String[] all = {"r" + at, "r" + at, "w" + at + "=1", "w" + at + "=" + random.nextInt(2), "b", "b",
                "t" + (1 + random.nextInt(9))};
            text.append(i == 0 ? "" : ";").append(all[random.nextInt(all.length)]);
        }
        if (random.nextInt(8) == 0) {
            text.setCharAt(random.nextInt(text.length()), "rwbt;=01789 x".charAt(random.nextInt(13)));
        }
        if (random.nextInt(12) == 0) {
            text.setLength(random.nextInt(text.length()));
        }
        return text.toString();
    }

    private boolean askAtRandom() {
        int core = someCore();
        int insurer = someInsurer();
        int tenant = someTenant();
        int ticks = fewTicks(200);
        int what = from(0, 8);
        int cover = random.nextBoolean() ? from(1, 500) : from(1, 60);
        int most = random.nextBoolean() ? from(1, 10000) : from(1, 100);
        int place = from(0, 63);
        int number = from(0, 18);
        int pace = from(1, 9);
        int side = from(0, 1);
        return same("core(" + core + "," + what + ")", () -> x.core(core, what), () -> m.core(core, what))
            && same("tenant(" + tenant + "," + what + ")", () -> x.tenant(tenant, what), () -> m.tenant(tenant, what))
            && same("insurer(" + insurer + "," + what + ")",
                () -> x.insurer(insurer, what), () -> m.insurer(insurer, what))
            && same("owed(" + place + "," + side + ")", () -> x.owed(place, side), () -> m.owed(place, side))
            && same("weakest(" + place + ")", () -> x.weakest(place), () -> m.weakest(place))
            && same("count(" + number + ")", () -> x.count(number), () -> m.count(number))
            && same("setting(" + what + ")", () -> x.setting(what), () -> m.setting(what))
            && same("premium(" + core + "," + insurer + "," + ticks + ")",
                () -> x.premium(core, insurer, ticks), () -> m.premium(core, insurer, ticks))
            && same("cheapest(" + core + "," + cover + "," + ticks + ")",
                () -> x.cheapest(core, cover, ticks), () -> m.cheapest(core, cover, ticks))
            && same("waitFor(" + core + "," + insurer + "," + ticks + "," + most + ")",
                () -> x.waitFor(core, insurer, ticks, most), () -> m.waitFor(core, insurer, ticks, most))
            && same("ifRead(" + core + "," + what + ")", () -> x.ifRead(core, what), () -> m.ifRead(core, what))
            && same("gentlest()", () -> x.gentlest(), () -> m.gentlest())
            && same("savable(" + pace + ")", () -> x.savable(pace), () -> m.savable(pace))
            && same("atRisk(" + tenant + ")", () -> x.atRisk(tenant), () -> m.atRisk(tenant))
            && same("backShare()", () -> Double.doubleToLongBits(x.backShare()),
                () -> Double.doubleToLongBits(m.backShare()));
    }
}

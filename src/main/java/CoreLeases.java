import java.util.Arrays;

/**
 * A plane of magnetic cores that are leased bit by bit. ../shared/DOC.md says what each call must do.
 *
 * The present is one Plane; what can be undone is kept in six more, and what would be is tried out on
 * another one. All of them are made with the object and used again, so that no call makes anything.
 */
public final class CoreLeases {

    public static final int NONE = -1;

    private static final int CORES = 64;
    private static final int SIDE = 8;
    private static final int MOST_STRENGTH = 100;
    private static final int MOST_HEAT = 100;
    private static final int MOST_TENANTS = 6;
    private static final int MOST_INSURERS = 3;
    private static final int MOST_MONEY = 10000;
    private static final int MOST_RATE = 200;
    private static final int MOST_COVER = 500;
    private static final int MOST_PREMIUM = 10000;
    private static final int MOST_TIME = 10000;
    private static final int MOST_TERM = 200;
    private static final int MOST_WAIT = 200;
    private static final int MOST_PASS = 100;
    private static final int MOST_PACE = 9;
    private static final int MOST_TEXT = 60;
    private static final int MOST_SAVED = 6;
    // Each claim takes a call of insure for itself, and an object is used for 512 calls.
    private static final int MOST_CLAIMS = 512;

    private static final long FIRST_ROW = 0xFFL;
    private static final long FIRST_COLUMN = 0x0101010101010101L;

    private static final int RENT = 0;
    private static final int WRITE_HEAT = 1;
    private static final int READ_HEAT = 2;
    private static final int PATIENCE = 3;
    private static final int LEAST_FOR_ONE = 4;
    private static final int AGAINST_DISTURBING = 5;
    private static final int COOLING = 6;
    private static final int PRICE = 7;
    private static final int SETTINGS = 8;
    private static final int[] FIRST_SETTINGS = {2, 4, 3, 5, 20, 60, 2, 10};
    private static final int[] MOST_SETTINGS = {20, 20, 20, 50, 100, 100, 10, 50};

    // The tallies bear the numbers that count gives them.
    private static final int READS = 8;
    private static final int DESTROYED = 9;
    private static final int BROUGHT_BACK = 10;
    private static final int WEAKNESS = 11;
    private static final int DELAY = 12;
    private static final int DISTURBING = 13;
    private static final int OVERWRITTEN = 14;
    private static final int DROPPED = 15;
    private static final int SPENT = 17;
    private static final int COUNTS = 19;

    private static final int CORE_PROPERTIES = 9;
    private static final int TENANT_PROPERTIES = 6;
    private static final int INSURER_PROPERTIES = 7;
    private static final int READ_PROPERTIES = 5;

    private static final int DIGEST_START = 2351;
    private static final int DIGEST_PLACES = 8;
    private static final int ONE_EXPONENT = 1023;
    private static final int FRACTION_BITS = 52;

    private final Plane now = new Plane();
    private final Plane trial = new Plane();
    private final Saves saves = new Saves();
    private final Text text = new Text();

    public CoreLeases() {
    }

    // ---- tenants, insurers, settings

    public int addTenant(int money) throws IllegalArgumentException, IllegalStateException {
        requireArgument(within(money, 0, MOST_MONEY));
        requireState(now.tenants.size < MOST_TENANTS);
        saves.keep(now);
        return now.tenants.enter(money);
    }

    public int addInsurer(int fund, int rate, int cover) throws IllegalArgumentException, IllegalStateException {
        requireArgument(within(fund, 0, MOST_MONEY));
        requireArgument(within(rate, 1, MOST_RATE));
        requireArgument(within(cover, 1, MOST_COVER));
        requireState(now.insurers.size < MOST_INSURERS);
        saves.keep(now);
        return now.insurers.enter(fund, rate, cover);
    }

    public int set(int setting, int value) throws IndexOutOfBoundsException, IllegalArgumentException {
        requireSetting(setting);
        requireArgument(within(value, 0, MOST_SETTINGS[setting]));
        saves.keep(now);
        int previous = now.settings[setting];
        now.settings[setting] = value;
        return previous;
    }

    // ---- leases and policies

    public int lease(int core, int tenant, int ticks)
            throws IndexOutOfBoundsException, IllegalArgumentException, IllegalStateException {
        requireCore(core);
        requireTenant(tenant);
        requireArgument(within(ticks, 1, MOST_TERM));
        requireState(!now.cores.isLeased(core));
        requireState(now.tenants.money[tenant] >= now.rentFor(ticks));
        saves.keep(now);
        now.leaseOut(core, tenant, ticks);
        return now.tenants.money[tenant];
    }

    public int insure(int core, int insurer, int ticks)
            throws IndexOutOfBoundsException, IllegalArgumentException, IllegalStateException {
        requireCore(core);
        requireInsurer(insurer);
        requireArgument(within(ticks, 1, MOST_TERM));
        int tenant = now.cores.tenantOf[core];
        requireState(now.tenants.has(tenant));
        requireState(!now.cores.hasPolicy(core));
        requireState(now.leaseLeft(core) >= ticks);
        int price = now.premiumFor(core, insurer, ticks, now.heat);
        requireState(now.tenants.money[tenant] >= price);
        saves.keep(now);
        now.makePolicy(core, insurer, ticks, tenant, price);
        return price;
    }

    public int renew(int core) throws IndexOutOfBoundsException, IllegalStateException {
        requireCore(core);
        requireState(!now.cores.isLeased(core));
        requireState(now.house >= now.settings[PRICE]);
        saves.keep(now);
        int previous = now.cores.strength[core];
        now.replaceCore(core);
        return previous;
    }

    // ---- pulses and ticks

    public int write(int core, boolean bit) throws IndexOutOfBoundsException, IllegalStateException {
        requireCore(core);
        requireState(now.cores.isLeased(core));
        saves.keep(now);
        now.writeBit(core, bit);
        return now.cores.bitOf(core);
    }

    public int read(int core) throws IndexOutOfBoundsException, IllegalStateException {
        requireCore(core);
        requireState(now.canBeRead(core));
        saves.keep(now);
        return now.readBit(core);
    }

    public int writeBack() throws IllegalStateException {
        requireState(now.debts.size > 0);
        saves.keep(now);
        return now.writeFirstBack();
    }

    public int pass(int ticks) throws IllegalArgumentException, IllegalStateException {
        requireArgument(within(ticks, 1, MOST_PASS));
        requireState(now.time + ticks <= MOST_TIME);
        saves.keep(now);
        now.letPass(ticks);
        return now.heat;
    }

    // ---- texts

    public int append(int code) throws IllegalArgumentException, IllegalStateException {
        requireArgument(within(code, 33, 126));
        requireState(text.length < MOST_TEXT);
        text.put(code);
        return text.length;
    }

    public int clearBuffer() {
        int previous = text.length;
        text.length = 0;
        return previous;
    }

    public int firstError() {
        return text.errorPlace();
    }

    public int run(int tenant) throws IndexOutOfBoundsException, IllegalArgumentException {
        requireTenant(tenant);
        requireArgument(text.isProgram());
        saves.keep(now);
        int done = 0;
        int place = 0;
        while (done < MOST_TEXT && place < text.length && canDoStep(tenant, place)) {
            doStep(place);
            done++;
            place += text.stepLength(place) + 1;
        }
        text.length = 0;
        return done;
    }

    public int undo() throws IllegalStateException {
        requireState(saves.size > 0);
        saves.restore(now);
        return saves.size;
    }

    // ---- what there is

    public int core(int core, int what) throws IndexOutOfBoundsException, IllegalArgumentException {
        requireCore(core);
        requireArgument(within(what, 0, CORE_PROPERTIES - 1));
        switch (what) {
            case 0:
                return now.cores.bitOf(core);
            case 1:
                return now.cores.strength[core];
            case 2:
                return now.cores.tenantOf[core];
            case 3:
                return now.leaseLeft(core);
            case 4:
                return now.cores.insurerOf[core];
            case 5:
                return now.policyLeft(core);
            case 6:
                return now.debts.isOwed(core) ? 1 : 0;
            case 7:
                return now.debts.due[core];
            default:
                return now.cores.lost[core];
        }
    }

    public int tenant(int tenant, int what) throws IndexOutOfBoundsException, IllegalArgumentException {
        requireTenant(tenant);
        requireArgument(within(what, 0, TENANT_PROPERTIES - 1));
        switch (what) {
            case 0:
                return now.tenants.money[tenant];
            case 1:
                return now.cores.leasedTo(tenant);
            case 2:
                return now.cores.insuredOf(tenant);
            case 3:
                return now.tenants.lost[tenant];
            case 4:
                return now.tenants.paid[tenant];
            default:
                return now.waitingOf(tenant);
        }
    }

    public int insurer(int insurer, int what) throws IndexOutOfBoundsException, IllegalArgumentException {
        requireInsurer(insurer);
        requireArgument(within(what, 0, INSURER_PROPERTIES - 1));
        switch (what) {
            case 0:
                return now.insurers.fund[insurer];
            case 1:
                return now.insurers.rate[insurer];
            case 2:
                return now.insurers.cover[insurer];
            case 3:
                return now.cores.insuredBy(insurer);
            case 4:
                return now.insurers.claimsPaid[insurer];
            case 5:
                return now.waitingOn(insurer);
            default:
                return now.insurers.premiums[insurer];
        }
    }

    public int owed(int place, int what) throws IllegalArgumentException {
        requireArgument(within(place, 0, CORES - 1));
        requireArgument(within(what, 0, 1));
        if (place >= now.debts.size) {
            return NONE;
        }
        int core = now.debts.order[place];
        return what == 0 ? core : now.debts.dueOf(core);
    }

    public int weakest(int place) throws IllegalArgumentException {
        requireArgument(within(place, 0, CORES - 1));
        int found = NONE;
        for (int i = 0; i <= place; i++) {
            found = now.cores.nextWeakest(found);
        }
        return found;
    }

    public int count(int what) throws IllegalArgumentException {
        requireArgument(within(what, 0, COUNTS - 1));
        switch (what) {
            case 0:
                return now.time;
            case 1:
                return now.heat;
            case 2:
                return now.tenants.size;
            case 3:
                return now.insurers.size;
            case 4:
                return now.cores.leasedInAll();
            case 5:
                return now.cores.insuredInAll();
            case 6:
                return now.debts.size;
            case 7:
                return Long.bitCount(now.cores.ones);
            case 16:
                return now.house;
            case 18:
                return saves.size;
            default:
                return now.tallies[what];
        }
    }

    public int setting(int setting) throws IndexOutOfBoundsException {
        requireSetting(setting);
        return now.settings[setting];
    }

    // ---- what would be; nothing is changed, and the limit of the time does not matter

    public int premium(int core, int insurer, int ticks) throws IndexOutOfBoundsException, IllegalArgumentException {
        requireCore(core);
        requireInsurer(insurer);
        requireArgument(within(ticks, 1, MOST_TERM));
        return now.premiumFor(core, insurer, ticks, now.heat);
    }

    public int cheapest(int core, int cover, int ticks) throws IndexOutOfBoundsException, IllegalArgumentException {
        requireCore(core);
        requireArgument(within(cover, 1, MOST_COVER));
        requireArgument(within(ticks, 1, MOST_TERM));
        int best = NONE;
        int least = 0;
        for (int i = 0; i < now.insurers.size; i++) {
            int price = now.premiumFor(core, i, ticks, now.heat);
            if (now.insurers.cover[i] >= cover && (best == NONE || price < least)) {
                best = i;
                least = price;
            }
        }
        return best;
    }

    public int waitFor(int core, int insurer, int ticks, int most)
            throws IndexOutOfBoundsException, IllegalArgumentException {
        requireCore(core);
        requireInsurer(insurer);
        requireArgument(within(ticks, 1, MOST_TERM));
        requireArgument(within(most, 1, MOST_PREMIUM));
        for (int wait = 0; wait <= MOST_WAIT; wait++) {
            // Of all that a tick does, the heat alone counts in a premium.
            int heat = Math.max(0, now.heat - wait * now.settings[COOLING]);
            if (now.premiumFor(core, insurer, ticks, heat) <= most) {
                return wait;
            }
        }
        return NONE;
    }

    public int ifRead(int core, int what) throws IndexOutOfBoundsException, IllegalArgumentException {
        requireCore(core);
        requireArgument(within(what, 0, READ_PROPERTIES - 1));
        switch (what) {
            case 0:
                return now.cores.bitOf(core);
            case 1:
                return Long.bitCount(now.fragile() & linesOf(core));
            case 2:
                return now.heatBehind(now.settings[READ_HEAT]);
            case 3:
                return now.strengthBehindPulse(core);
            default:
                return Long.bitCount(now.fragile() & linesOf(core) & now.cores.insured());
        }
    }

    public int gentlest() {
        long fragile = now.fragile();
        int best = NONE;
        int fewest = CORES;
        int greatest = 0;
        for (int core = 0; core < CORES; core++) {
            if (now.cores.isOne(core) && now.canBeRead(core)) {
                int lost = Long.bitCount(fragile & linesOf(core));
                int strength = now.cores.strength[core];
                if (best == NONE || lost < fewest || lost == fewest && strength > greatest) {
                    best = core;
                    fewest = lost;
                    greatest = strength;
                }
            }
        }
        return best;
    }

    public int savable(int pace) throws IllegalArgumentException {
        requireArgument(within(pace, 1, MOST_PACE));
        trial.become(now);
        // A round does one write-back at least, and no more than CORES of them are owed.
        for (int round = 0; round < CORES && trial.debts.size > 0; round++) {
            for (int i = 0; i < pace && trial.debts.size > 0; i++) {
                trial.writeFirstBack();
            }
            trial.tick();
        }
        return trial.tallies[BROUGHT_BACK] - now.tallies[BROUGHT_BACK];
    }

    public int atRisk(int tenant) throws IndexOutOfBoundsException {
        requireTenant(tenant);
        long fragile = now.fragile() & now.cores.leasesOf(tenant);
        int most = 0;
        for (int core = 0; core < CORES; core++) {
            if (now.canBeRead(core)) {
                most = Math.max(most, Long.bitCount(fragile & linesOf(core)));
            }
        }
        return most;
    }

    public double backShare() {
        int destroyed = now.tallies[DESTROYED];
        if (destroyed == 0) {
            return 0.0;
        }
        return (double) now.tallies[BROUGHT_BACK] / (double) destroyed;
    }

    public long digest() {
        long hash = DIGEST_START;
        for (int i = 0; i < COUNTS; i++) {
            hash = mixed(hash, count(i));
        }
        for (int i = 0; i < SETTINGS; i++) {
            hash = mixed(hash, setting(i));
        }
        hash = withCores(hash);
        hash = withTenants(hash);
        hash = withInsurers(hash);
        hash = withDebts(hash);
        int weak = NONE;
        for (int i = 0; i < DIGEST_PLACES; i++) {
            weak = now.cores.nextWeakest(weak);
            hash = mixed(hash, weak);
        }
        hash = mixed(hash, gentlest());
        hash = mixed(hash, savable(1));
        hash = mixed(hash, savable(3));
        hash = mixed(hash, bitsOfShare(backShare()));
        return withText(hash);
    }

    // ---- the parts of the digest

    private static long mixed(long hash, long value) {
        return 31L * hash + value;
    }

    private long withCores(long hash) {
        long fragile = now.fragile();
        long sum = hash;
        for (int core = 0; core < CORES; core++) {
            for (int what = 0; what < CORE_PROPERTIES; what++) {
                sum = mixed(sum, core(core, what));
            }
            sum = mixed(sum, Long.bitCount(fragile & linesOf(core)));
        }
        return sum;
    }

    private long withTenants(long hash) {
        long sum = hash;
        for (int tenant = 0; tenant < now.tenants.size; tenant++) {
            for (int what = 0; what < TENANT_PROPERTIES; what++) {
                sum = mixed(sum, tenant(tenant, what));
            }
            sum = mixed(sum, atRisk(tenant));
        }
        return sum;
    }

    private long withInsurers(long hash) {
        long sum = hash;
        for (int insurer = 0; insurer < now.insurers.size; insurer++) {
            for (int what = 0; what < INSURER_PROPERTIES; what++) {
                sum = mixed(sum, insurer(insurer, what));
            }
        }
        return sum;
    }

    private long withDebts(long hash) {
        long sum = hash;
        for (int place = 0; place < now.debts.size; place++) {
            sum = mixed(sum, owed(place, 0));
            sum = mixed(sum, owed(place, 1));
        }
        return sum;
    }

    private long withText(long hash) {
        long sum = mixed(hash, text.length);
        for (int i = 0; i < text.length; i++) {
            sum = mixed(sum, text.codeAt(i));
        }
        return sum;
    }

    /**
     * The bits of a share from 0.0 to 1.0 as Double.doubleToLongBits has them, which the rules for the
     * program do not allow. Doubling is exact, and no share is so small that it would be subnormal.
     */
    private static long bitsOfShare(double share) {
        if (share <= 0.0) {
            return 0L;
        }
        double fraction = share;
        long exponent = ONE_EXPONENT;
        for (int i = 1; i < ONE_EXPONENT && fraction < 1.0; i++) {
            fraction = fraction * 2.0;
            exponent--;
        }
        long behindOne = (long) ((fraction - 1.0) * (double) (1L << FRACTION_BITS));
        return (exponent << FRACTION_BITS) + behindOne;
    }

    // ---- the steps of a program

    /** Whether the method of the step that begins at a place would not throw, and its core is the tenant's. */
    private boolean canDoStep(int tenant, int place) {
        int core = text.coreAt(place + 1);
        switch (text.codeAt(place)) {
            case 'r':
                return now.cores.isLeasedTo(core, tenant) && now.canBeRead(core);
            case 'w':
                return now.cores.isLeasedTo(core, tenant);
            case 'b':
                return now.debts.size > 0;
            default:
                return now.time + text.digitAt(place + 1) <= MOST_TIME;
        }
    }

    private void doStep(int place) {
        int core = text.coreAt(place + 1);
        switch (text.codeAt(place)) {
            case 'r':
                now.readBit(core);
                break;
            case 'w':
                now.writeBit(core, text.codeAt(place + 4) == '1');
                break;
            case 'b':
                now.writeFirstBack();
                break;
            default:
                now.letPass(text.digitAt(place + 1));
                break;
        }
    }

    // ---- tests of arguments and of the state

    private static boolean within(int value, int least, int most) {
        return least <= value && value <= most;
    }

    private static boolean isCore(int core) {
        return within(core, 0, CORES - 1);
    }

    private static void requireCore(int core) throws IndexOutOfBoundsException {
        if (!isCore(core)) {
            throw new IndexOutOfBoundsException("there is no such core");
        }
    }

    private void requireTenant(int tenant) throws IndexOutOfBoundsException {
        if (!now.tenants.has(tenant)) {
            throw new IndexOutOfBoundsException("there is no such tenant");
        }
    }

    private void requireInsurer(int insurer) throws IndexOutOfBoundsException {
        if (!now.insurers.has(insurer)) {
            throw new IndexOutOfBoundsException("there is no such insurer");
        }
    }

    private static void requireSetting(int setting) throws IndexOutOfBoundsException {
        if (!within(setting, 0, SETTINGS - 1)) {
            throw new IndexOutOfBoundsException("there is no such setting");
        }
    }

    private static void requireArgument(boolean inRange) throws IllegalArgumentException {
        if (!inRange) {
            throw new IllegalArgumentException("an argument is not one that is allowed");
        }
    }

    private static void requireState(boolean allows) throws IllegalStateException {
        if (!allows) {
            throw new IllegalStateException("the present state does not allow this");
        }
    }

    // ---- sets of cores: the bit n of a long stands for the core n

    private static long maskOf(int core) {
        return 1L << core;
    }

    /** The other cores of the row and of the column of a core. */
    private static long linesOf(int core) {
        long row = FIRST_ROW << (core / SIDE * SIDE);
        long column = FIRST_COLUMN << (core % SIDE);
        return (row | column) & ~maskOf(core);
    }

    private static void copyRow(int[] from, int[] to) {
        System.arraycopy(from, 0, to, 0, Math.min(from.length, to.length));
    }

    /** What is true of the cores, and of their leases and policies. */
    private static final class Cores {
        long ones = 0L;
        final int[] strength = new int[CORES];
        final int[] tenantOf = new int[CORES];
        final int[] leaseEnd = new int[CORES];
        final int[] insurerOf = new int[CORES];
        final int[] policyEnd = new int[CORES];
        final int[] lost = new int[CORES];

        Cores() {
            Arrays.fill(strength, MOST_STRENGTH);
            Arrays.fill(tenantOf, NONE);
            Arrays.fill(insurerOf, NONE);
        }

        void become(Cores other) {
            ones = other.ones;
            copyRow(other.strength, strength);
            copyRow(other.tenantOf, tenantOf);
            copyRow(other.leaseEnd, leaseEnd);
            copyRow(other.insurerOf, insurerOf);
            copyRow(other.policyEnd, policyEnd);
            copyRow(other.lost, lost);
        }

        boolean isOne(int core) {
            return (ones & maskOf(core)) != 0L;
        }

        int bitOf(int core) {
            return isOne(core) ? 1 : 0;
        }

        void putBit(int core, boolean one) {
            ones = one ? ones | maskOf(core) : ones & ~maskOf(core);
        }

        boolean isLeased(int core) {
            return tenantOf[core] != NONE;
        }

        boolean isLeasedTo(int core, int tenant) {
            return isCore(core) && tenantOf[core] == tenant;
        }

        boolean hasPolicy(int core) {
            return insurerOf[core] != NONE;
        }

        void endPolicy(int core) {
            insurerOf[core] = NONE;
        }

        void endLease(int core) {
            tenantOf[core] = NONE;
            endPolicy(core);
        }

        /** The cores that are leased to a tenant. */
        long leasesOf(int tenant) {
            long found = 0L;
            for (int core = 0; core < CORES; core++) {
                if (tenantOf[core] == tenant) {
                    found |= maskOf(core);
                }
            }
            return found;
        }

        /** The cores that have a policy. */
        long insured() {
            long found = 0L;
            for (int core = 0; core < CORES; core++) {
                if (hasPolicy(core)) {
                    found |= maskOf(core);
                }
            }
            return found;
        }

        int leasedTo(int tenant) {
            return Long.bitCount(leasesOf(tenant));
        }

        int insuredOf(int tenant) {
            return Long.bitCount(leasesOf(tenant) & insured());
        }

        int leasedInAll() {
            return CORES - leasedTo(NONE);
        }

        int insuredInAll() {
            return Long.bitCount(insured());
        }

        int insuredBy(int insurer) {
            int found = 0;
            for (int core = 0; core < CORES; core++) {
                if (insurerOf[core] == insurer) {
                    found++;
                }
            }
            return found;
        }

        /** The cores that have the bit 1 and a strength less than a limit. */
        long onesBelow(int limit) {
            long found = 0L;
            for (int core = 0; core < CORES; core++) {
                if (strength[core] < limit && isOne(core)) {
                    found |= maskOf(core);
                }
            }
            return found;
        }

        /** The core that comes next behind a core in the order of weakness; the weakest one behind NONE. */
        int nextWeakest(int before) {
            int next = NONE;
            for (int core = 0; core < CORES; core++) {
                if (isWeaker(before, core) && (next == NONE || isWeaker(core, next))) {
                    next = core;
                }
            }
            return next;
        }

        /** Whether a core comes ahead of another one in the order of weakness; NONE comes ahead of all. */
        private boolean isWeaker(int core, int other) {
            if (!isCore(core) || !isCore(other)) {
                return core == NONE;
            }
            return strength[core] < strength[other] || strength[core] == strength[other] && core < other;
        }
    }

    /** The write-backs that are owed, in their order. */
    private static final class Debts {
        int size = 0;
        final int[] order = new int[CORES];
        final int[] due = new int[CORES];

        Debts() {
            Arrays.fill(due, NONE);
        }

        void become(Debts other) {
            size = other.size;
            copyRow(other.order, order);
            copyRow(other.due, due);
        }

        boolean isOwed(int core) {
            return due[core] != NONE;
        }

        int dueOf(int core) {
            return isCore(core) ? due[core] : NONE;
        }

        int firstCore() {
            return size > 0 ? order[0] : NONE;
        }

        void enter(int core, int time) {
            if (size >= CORES || isOwed(core)) {
                return;
            }
            int place = size;
            while (place > 0 && dueOf(order[place - 1]) > time) {
                order[place] = order[place - 1];
                place--;
            }
            order[place] = core;
            due[core] = time;
            size++;
        }

        void strike(int core) {
            if (!isOwed(core)) {
                return;
            }
            int kept = 0;
            for (int i = 0; i < size; i++) {
                if (order[i] != core) {
                    order[kept] = order[i];
                    kept++;
                }
            }
            due[core] = NONE;
            size = kept;
        }
    }

    /** The tenants, with what they have, lost and were paid. */
    private static final class Tenants {
        int size = 0;
        final int[] money = new int[MOST_TENANTS];
        final int[] lost = new int[MOST_TENANTS];
        final int[] paid = new int[MOST_TENANTS];

        void become(Tenants other) {
            size = other.size;
            copyRow(other.money, money);
            copyRow(other.lost, lost);
            copyRow(other.paid, paid);
        }

        boolean has(int tenant) {
            return 0 <= tenant && tenant < size;
        }

        int enter(int sum) {
            if (size >= MOST_TENANTS) {
                return NONE;
            }
            money[size] = sum;
            size++;
            return size - 1;
        }
    }

    /** The insurers, with their terms and what they took and paid. */
    private static final class Insurers {
        int size = 0;
        final int[] fund = new int[MOST_INSURERS];
        final int[] rate = new int[MOST_INSURERS];
        final int[] cover = new int[MOST_INSURERS];
        final int[] premiums = new int[MOST_INSURERS];
        final int[] claimsPaid = new int[MOST_INSURERS];

        void become(Insurers other) {
            size = other.size;
            copyRow(other.fund, fund);
            copyRow(other.rate, rate);
            copyRow(other.cover, cover);
            copyRow(other.premiums, premiums);
            copyRow(other.claimsPaid, claimsPaid);
        }

        boolean has(int insurer) {
            return 0 <= insurer && insurer < size;
        }

        int enter(int newFund, int newRate, int newCover) {
            if (size >= MOST_INSURERS) {
                return NONE;
            }
            fund[size] = newFund;
            rate[size] = newRate;
            cover[size] = newCover;
            size++;
            return size - 1;
        }
    }

    /** All that undo restores, and what pulses and ticks do to it. */
    private static final class Plane {
        int time = 0;
        int heat = 0;
        int house = 0;
        final int[] settings = new int[SETTINGS];
        final int[] tallies = new int[COUNTS];
        final Cores cores = new Cores();
        final Debts debts = new Debts();
        final Tenants tenants = new Tenants();
        final Insurers insurers = new Insurers();
        // The claims that wait, of all insurers, as they came: insurer * MOST_TENANTS + tenant.
        final int[] claims = new int[MOST_CLAIMS];
        int waiting = 0;

        Plane() {
            copyRow(FIRST_SETTINGS, settings);
        }

        void become(Plane other) {
            time = other.time;
            heat = other.heat;
            house = other.house;
            copyRow(other.settings, settings);
            copyRow(other.tallies, tallies);
            cores.become(other.cores);
            debts.become(other.debts);
            tenants.become(other.tenants);
            insurers.become(other.insurers);
            waiting = other.waiting;
            for (int i = 0; i < waiting; i++) {
                claims[i] = other.claims[i];
            }
        }

        // -- leases and policies

        int rentFor(int ticks) {
            return settings[RENT] * ticks;
        }

        int leaseLeft(int core) {
            return cores.isLeased(core) ? cores.leaseEnd[core] - time : 0;
        }

        int policyLeft(int core) {
            return cores.hasPolicy(core) ? cores.policyEnd[core] - time : 0;
        }

        void leaseOut(int core, int tenant, int ticks) {
            int rent = rentFor(ticks);
            tenants.money[tenant] -= rent;
            house += rent;
            cores.tenantOf[core] = tenant;
            cores.leaseEnd[core] = time + ticks;
        }

        int premiumFor(int core, int insurer, int ticks, int atHeat) {
            int risk = 10 + atHeat + 100 - cores.strength[core];
            return risk * ticks * insurers.rate[insurer] / 1000 + 1;
        }

        void makePolicy(int core, int insurer, int ticks, int tenant, int price) {
            tenants.money[tenant] -= price;
            insurers.fund[insurer] += price;
            insurers.premiums[insurer] += price;
            cores.insurerOf[core] = insurer;
            cores.policyEnd[core] = time + ticks;
            payClaims(insurer);
        }

        void replaceCore(int core) {
            house -= settings[PRICE];
            tallies[SPENT] += settings[PRICE];
            cores.strength[core] = MOST_STRENGTH;
            cores.putBit(core, false);
        }

        // -- lost bits and claims

        /** Notes that the bit of a core is lost; way is the tally of the way in which it is. */
        void loseBit(int core, int way) {
            cores.putBit(core, false);
            cores.lost[core]++;
            tallies[way]++;
            int tenant = cores.tenantOf[core];
            if (!tenants.has(tenant)) {
                return;
            }
            tenants.lost[tenant]++;
            int insurer = cores.insurerOf[core];
            if (insurers.has(insurer)) {
                cores.endPolicy(core);
                enterClaim(insurer, tenant);
                payClaims(insurer);
            }
        }

        private void enterClaim(int insurer, int tenant) {
            if (waiting < MOST_CLAIMS) {
                claims[waiting] = insurer * MOST_TENANTS + tenant;
                waiting++;
            }
        }

        private void payClaims(int insurer) {
            int sum = insurers.cover[insurer];
            int kept = 0;
            for (int i = 0; i < waiting; i++) {
                int claim = claims[i];
                // The claims on one insurer are all for its cover: behind one that must wait, all must.
                if (claim / MOST_TENANTS == insurer && insurers.fund[insurer] >= sum) {
                    int tenant = claim % MOST_TENANTS;
                    insurers.fund[insurer] -= sum;
                    insurers.claimsPaid[insurer]++;
                    tenants.money[tenant] += sum;
                    tenants.paid[tenant] += sum;
                } else {
                    claims[kept] = claim;
                    kept++;
                }
            }
            waiting = kept;
        }

        int waitingOf(int tenant) {
            int found = 0;
            for (int i = 0; i < waiting; i++) {
                if (claims[i] % MOST_TENANTS == tenant) {
                    found++;
                }
            }
            return found;
        }

        int waitingOn(int insurer) {
            int found = 0;
            for (int i = 0; i < waiting; i++) {
                if (claims[i] / MOST_TENANTS == insurer) {
                    found++;
                }
            }
            return found;
        }

        // -- pulses

        boolean canBeRead(int core) {
            return cores.isLeased(core) && !debts.isOwed(core);
        }

        /** The cores whose bits a pulse in their row or column would disturb. */
        long fragile() {
            return cores.onesBelow(settings[AGAINST_DISTURBING]);
        }

        int strengthBehindPulse(int core) {
            return Math.max(0, cores.strength[core] - 1 - heat / 25);
        }

        int heatBehind(int heating) {
            return Math.min(MOST_HEAT, heat + heating);
        }

        private void pulse(int core, int heating) {
            cores.strength[core] = strengthBehindPulse(core);
            long disturbed = fragile() & linesOf(core);
            for (int other = 0; other < CORES && disturbed != 0L; other++) {
                if ((disturbed & maskOf(other)) != 0L) {
                    loseBit(other, DISTURBING);
                }
            }
            heat = heatBehind(heating);
        }

        private boolean holdsOne(int core) {
            return cores.strength[core] >= settings[LEAST_FOR_ONE];
        }

        void writeBit(int core, boolean bit) {
            pulse(core, settings[WRITE_HEAT]);
            cores.putBit(core, bit && holdsOne(core));
            if (debts.isOwed(core)) {
                debts.strike(core);
                tallies[OVERWRITTEN]++;
            }
        }

        int readBit(int core) {
            pulse(core, settings[READ_HEAT]);
            tallies[READS]++;
            if (!cores.isOne(core)) {
                return 0;
            }
            tallies[DESTROYED]++;
            cores.putBit(core, false);
            debts.enter(core, time + settings[PATIENCE]);
            return 1;
        }

        /** Does the first write-back that is owed, and returns its core. */
        int writeFirstBack() {
            int core = debts.firstCore();
            if (!isCore(core)) {
                return NONE;
            }
            pulse(core, settings[WRITE_HEAT]);
            debts.strike(core);
            if (holdsOne(core)) {
                cores.putBit(core, true);
                tallies[BROUGHT_BACK]++;
            } else {
                loseBit(core, WEAKNESS);
            }
            return core;
        }

        // -- ticks

        void letPass(int ticks) {
            for (int i = 0; i < ticks; i++) {
                tick();
            }
        }

        void tick() {
            time++;
            heat = Math.max(0, heat - settings[COOLING]);
            loseLateBits();
            for (int core = 0; core < CORES; core++) {
                if (cores.hasPolicy(core) && cores.policyEnd[core] <= time) {
                    cores.endPolicy(core);
                }
                if (cores.isLeased(core) && cores.leaseEnd[core] <= time) {
                    endLeaseOf(core);
                }
            }
        }

        private void loseLateBits() {
            for (int i = 0; i < CORES; i++) {
                int core = debts.firstCore();
                if (!isCore(core) || debts.dueOf(core) >= time) {
                    return;
                }
                debts.strike(core);
                loseBit(core, DELAY);
            }
        }

        private void endLeaseOf(int core) {
            cores.endLease(core);
            if (debts.isOwed(core)) {
                debts.strike(core);
                tallies[DROPPED]++;
            }
        }
    }

    /** The saved states, the oldest one first. */
    private static final class Saves {
        int size = 0;
        final Plane[] planes = new Plane[MOST_SAVED];

        Saves() {
            for (int i = 0; i < MOST_SAVED; i++) {
                planes[i] = new Plane();
            }
        }

        void keep(Plane plane) {
            if (size >= MOST_SAVED) {
                dropOldest();
            }
            planes[size].become(plane);
            size++;
        }

        /** The plane of the oldest state moves to the end, to be used again. */
        private void dropOldest() {
            Plane oldest = planes[0];
            for (int i = 1; i < MOST_SAVED; i++) {
                planes[i - 1] = planes[i];
            }
            planes[MOST_SAVED - 1] = oldest;
            size = MOST_SAVED - 1;
        }

        void restore(Plane plane) {
            if (size > 0) {
                size--;
                plane.become(planes[size]);
            }
        }
    }

    /** The buffer, and its reading as a program. */
    private static final class Text {
        private static final int WRONG = 0;
        private static final int STEP = 1;
        private static final int BEHIND_STEP = 2;
        private static final int READ_ROW = 3;
        private static final int READ_COLUMN = 4;
        private static final int WRITE_ROW = 5;
        private static final int WRITE_COLUMN = 6;
        private static final int EQUALS = 7;
        private static final int BIT = 8;
        private static final int TICKS = 9;

        int length = 0;
        final int[] codes = new int[MOST_TEXT];

        void put(int code) {
            if (length < MOST_TEXT) {
                codes[length] = code;
                length++;
            }
        }

        int codeAt(int place) {
            return 0 <= place && place < length ? codes[place] : 0;
        }

        int digitAt(int place) {
            return codeAt(place) - '0';
        }

        int coreAt(int place) {
            return SIDE * digitAt(place) + digitAt(place + 1);
        }

        int stepLength(int place) {
            switch (codeAt(place)) {
                case 'r':
                    return 3;
                case 'w':
                    return 5;
                case 't':
                    return 2;
                default:
                    return 1;
            }
        }

        int errorPlace() {
            int wanted = STEP;
            for (int i = 0; i < length; i++) {
                wanted = wantedBehind(wanted, codeAt(i));
                if (wanted == WRONG) {
                    return i;
                }
            }
            return length;
        }

        boolean isProgram() {
            int wanted = STEP;
            for (int i = 0; i < length; i++) {
                wanted = wantedBehind(wanted, codeAt(i));
            }
            return wanted == BEHIND_STEP;
        }

        /** What is wanted behind a character, where something was wanted; nothing is right behind WRONG. */
        private static int wantedBehind(int wanted, int code) {
            switch (wanted) {
                case STEP:
                    return wantedInStep(code);
                case BEHIND_STEP:
                    return code == ';' ? STEP : WRONG;
                case READ_ROW:
                    return within(code, '0', '7') ? READ_COLUMN : WRONG;
                case READ_COLUMN:
                    return within(code, '0', '7') ? BEHIND_STEP : WRONG;
                case WRITE_ROW:
                    return within(code, '0', '7') ? WRITE_COLUMN : WRONG;
                case WRITE_COLUMN:
                    return within(code, '0', '7') ? EQUALS : WRONG;
                case EQUALS:
                    return code == '=' ? BIT : WRONG;
                case BIT:
                    return within(code, '0', '1') ? BEHIND_STEP : WRONG;
                case TICKS:
                    return within(code, '1', '9') ? BEHIND_STEP : WRONG;
                default:
                    return WRONG;
            }
        }

        private static int wantedInStep(int code) {
            switch (code) {
                case 'r':
                    return READ_ROW;
                case 'w':
                    return WRITE_ROW;
                case 'b':
                    return BEHIND_STEP;
                case 't':
                    return TICKS;
                default:
                    return WRONG;
            }
        }
    }
}

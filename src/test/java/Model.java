import java.util.ArrayList;
import java.util.Comparator;
import java.util.List;
import java.util.regex.Matcher;
import java.util.regex.Pattern;

/**
 * The document once more, written as naively as can be with the whole Java library, to be compared with
 * CoreLeases call by call. It shares no code and no way of holding the state with it, on purpose.
 */
final class Model {

    static final class Core {
        boolean bit;
        int strength = 100;
        Tenant tenant;
        int leaseLeft;
        Insurer insurer;
        int policyLeft;
        int lost;
        final int number;

        Core(int number) {
            this.number = number;
        }
    }

    static final class Tenant {
        int money;
        int lost;
        int paid;
    }

    static final class Insurer {
        int fund;
        int rate;
        int cover;
        int paidClaims;
        int premiums;
        List<Tenant> waiting = new ArrayList<>();
    }

    static final class Debt {
        Core core;
        int due;
        int came;
    }

    static final class State {
        int time;
        int heat;
        int house;
        int came;
        int reads, destroyed, back, weak, late, disturbed, overwritten, dropped, spent;
        int[] settings = {2, 4, 3, 5, 20, 60, 2, 10};
        List<Core> cores = new ArrayList<>();
        List<Tenant> tenants = new ArrayList<>();
        List<Insurer> insurers = new ArrayList<>();
        List<Debt> debts = new ArrayList<>();

        State() {
            for (int i = 0; i < 64; i++) {
                cores.add(new Core(i));
            }
        }

        State copy() {
            State s = new State();
            s.time = time;
            s.heat = heat;
            s.house = house;
            s.came = came;
            s.reads = reads;
            s.destroyed = destroyed;
            s.back = back;
            s.weak = weak;
            s.late = late;
            s.disturbed = disturbed;
            s.overwritten = overwritten;
            s.dropped = dropped;
            s.spent = spent;
            s.settings = settings.clone();
            for (Tenant t : tenants) {
                Tenant u = new Tenant();
                u.money = t.money;
                u.lost = t.lost;
                u.paid = t.paid;
                s.tenants.add(u);
            }
            for (Insurer n : insurers) {
                Insurer m = new Insurer();
                m.fund = n.fund;
                m.rate = n.rate;
                m.cover = n.cover;
                m.paidClaims = n.paidClaims;
                m.premiums = n.premiums;
                for (Tenant t : n.waiting) {
                    m.waiting.add(s.tenants.get(tenants.indexOf(t)));
                }
                s.insurers.add(m);
            }
            for (Core c : cores) {
                Core d = s.cores.get(c.number);
                d.bit = c.bit;
                d.strength = c.strength;
                d.tenant = c.tenant == null ? null : s.tenants.get(tenants.indexOf(c.tenant));
                d.leaseLeft = c.leaseLeft;
                d.insurer = c.insurer == null ? null : s.insurers.get(insurers.indexOf(c.insurer));
                d.policyLeft = c.policyLeft;
                d.lost = c.lost;
            }
            for (Debt d : debts) {
                Debt e = new Debt();
                e.core = s.cores.get(d.core.number);
                e.due = d.due;
                e.came = d.came;
                s.debts.add(e);
            }
            return s;
        }

        Debt debtOf(Core c) {
            for (Debt d : debts) {
                if (d.core == c) {
                    return d;
                }
            }
            return null;
        }

        List<Debt> inOrder() {
            List<Debt> sorted = new ArrayList<>(debts);
            sorted.sort(Comparator.<Debt>comparingInt(d -> d.due).thenComparingInt(d -> d.came));
            return sorted;
        }

        void lost(Core c) {
            c.bit = false;
            c.lost++;
            if (c.tenant != null) {
                c.tenant.lost++;
                if (c.insurer != null) {
                    Insurer n = c.insurer;
                    c.insurer = null;
                    c.policyLeft = 0;
                    n.waiting.add(c.tenant);
                    pay(n);
                }
            }
        }

        void pay(Insurer n) {
            while (!n.waiting.isEmpty() && n.fund >= n.cover) {
                Tenant t = n.waiting.remove(0);
                n.fund -= n.cover;
                n.paidClaims++;
                t.money += n.cover;
                t.paid += n.cover;
            }
        }

        List<Core> wouldDisturb(Core c) {
            List<Core> hit = new ArrayList<>();
            for (Core o : cores) {
                boolean sameLine = o.number / 8 == c.number / 8 || o.number % 8 == c.number % 8;
                if (o != c && sameLine && o.bit && o.strength < settings[5]) {
                    hit.add(o);
                }
            }
            return hit;
        }

        void pulse(Core c, int heating) {
            c.strength = Math.max(0, c.strength - (1 + heat / 25));
            for (Core o : wouldDisturb(c)) {
                disturbed++;
                lost(o);
            }
            heat = Math.min(100, heat + heating);
        }

        void write(Core c, boolean bit) {
            pulse(c, settings[1]);
            c.bit = bit && c.strength >= settings[4];
            Debt d = debtOf(c);
            if (d != null) {
                debts.remove(d);
                overwritten++;
            }
        }

        int read(Core c) {
            pulse(c, settings[2]);
            reads++;
            if (!c.bit) {
                return 0;
            }
            destroyed++;
            c.bit = false;
            Debt d = new Debt();
            d.core = c;
            d.due = time + settings[3];
            d.came = came++;
            debts.add(d);
            return 1;
        }

        int writeBack() {
            Debt d = inOrder().get(0);
            pulse(d.core, settings[1]);
            debts.remove(d);
            if (d.core.strength >= settings[4]) {
                d.core.bit = true;
                back++;
            } else {
                weak++;
                lost(d.core);
            }
            return d.core.number;
        }

        void tick() {
            time++;
            heat = Math.max(0, heat - settings[6]);
            for (Debt d : inOrder()) {
                if (d.due < time) {
                    debts.remove(d);
                    late++;
                    lost(d.core);
                }
            }
            for (Core c : cores) {
                if (c.insurer != null && --c.policyLeft == 0) {
                    c.insurer = null;
                }
            }
            for (Core c : cores) {
                if (c.tenant != null && --c.leaseLeft == 0) {
                    c.tenant = null;
                    c.insurer = null;
                    c.policyLeft = 0;
                    Debt d = debtOf(c);
                    if (d != null) {
                        debts.remove(d);
                        dropped++;
                    }
                }
            }
        }

        boolean readable(Core c) {
            return c.tenant != null && debtOf(c) == null;
        }

        int premium(Core c, Insurer n, int ticks) {
            return (10 + heat + 100 - c.strength) * ticks * n.rate / 1000 + 1;
        }
    }

    State s = new State();
    final List<State> saved = new ArrayList<>();
    String buffer = "";

    private static final int[] MOST = {20, 20, 20, 50, 100, 100, 10, 50};

    private void save() {
        saved.add(s.copy());
        if (saved.size() > 6) {
            saved.remove(0);
        }
    }

    private static void index(boolean ok) {
        if (!ok) {
            throw new IndexOutOfBoundsException();
        }
    }

    private static void argument(boolean ok) {
        if (!ok) {
            throw new IllegalArgumentException();
        }
    }

    private static void state(boolean ok) {
        if (!ok) {
            throw new IllegalStateException();
        }
    }

    private Core coreAt(int n) {
        index(n >= 0 && n < 64);
        return s.cores.get(n);
    }

    private Tenant tenantAt(int n) {
        index(n >= 0 && n < s.tenants.size());
        return s.tenants.get(n);
    }

    private Insurer insurerAt(int n) {
        index(n >= 0 && n < s.insurers.size());
        return s.insurers.get(n);
    }

    int addTenant(int money) {
        argument(money >= 0 && money <= 10000);
        state(s.tenants.size() < 6);
        save();
        Tenant t = new Tenant();
        t.money = money;
        s.tenants.add(t);
        return s.tenants.size() - 1;
    }

    int addInsurer(int fund, int rate, int cover) {
        argument(fund >= 0 && fund <= 10000 && rate >= 1 && rate <= 200 && cover >= 1 && cover <= 500);
        state(s.insurers.size() < 3);
        save();
        Insurer n = new Insurer();
        n.fund = fund;
        n.rate = rate;
        n.cover = cover;
        s.insurers.add(n);
        return s.insurers.size() - 1;
    }

    int set(int setting, int value) {
        index(setting >= 0 && setting < 8);
        argument(value >= 0 && value <= MOST[setting]);
        save();
        int old = s.settings[setting];
        s.settings[setting] = value;
        return old;
    }

    int lease(int core, int tenant, int ticks) {
        Core c = coreAt(core);
        Tenant t = tenantAt(tenant);
        argument(ticks >= 1 && ticks <= 200);
        state(c.tenant == null && t.money >= s.settings[0] * ticks);
        save();
        t.money -= s.settings[0] * ticks;
        s.house += s.settings[0] * ticks;
        c.tenant = t;
        c.leaseLeft = ticks;
        return t.money;
    }

    int insure(int core, int insurer, int ticks) {
        Core c = coreAt(core);
        Insurer n = insurerAt(insurer);
        argument(ticks >= 1 && ticks <= 200);
        int premium = s.premium(c, n, ticks);
        state(c.tenant != null && c.insurer == null && c.leaseLeft >= ticks && c.tenant.money >= premium);
        save();
        c.tenant.money -= premium;
        n.fund += premium;
        n.premiums += premium;
        c.insurer = n;
        c.policyLeft = ticks;
        s.pay(n);
        return premium;
    }

    int renew(int core) {
        Core c = coreAt(core);
        state(c.tenant == null && s.house >= s.settings[7]);
        save();
        s.house -= s.settings[7];
        s.spent += s.settings[7];
        int old = c.strength;
        c.strength = 100;
        c.bit = false;
        return old;
    }

    int write(int core, boolean bit) {
        Core c = coreAt(core);
        state(c.tenant != null);
        save();
        s.write(c, bit);
        return c.bit ? 1 : 0;
    }

    int read(int core) {
        Core c = coreAt(core);
        state(s.readable(c));
        save();
        return s.read(c);
    }

    int writeBack() {
        state(!s.debts.isEmpty());
        save();
        return s.writeBack();
    }

    int pass(int ticks) {
        argument(ticks >= 1 && ticks <= 100);
        state(s.time + ticks <= 10000);
        save();
        for (int i = 0; i < ticks; i++) {
            s.tick();
        }
        return s.heat;
    }

    int append(int code) {
        argument(code >= 33 && code <= 126);
        state(buffer.length() < 60);
        buffer += (char) code;
        return buffer.length();
    }

    int clearBuffer() {
        int n = buffer.length();
        buffer = "";
        return n;
    }

    private static final String ONE_STEP = "(r[0-7][0-7]|w[0-7][0-7]=[01]|b|t[1-9])";
    private static final Pattern PROGRAM = Pattern.compile(ONE_STEP + "(;" + ONE_STEP + ")*");

    int firstError() {
        for (int i = 0; i < buffer.length(); i++) {
            Matcher m = PROGRAM.matcher(buffer.substring(0, i + 1));
            if (!m.matches() && !m.hitEnd()) {
                return i;
            }
        }
        return buffer.length();
    }

    int run(int tenant) {
        Tenant t = tenantAt(tenant);
        argument(PROGRAM.matcher(buffer).matches());
        save();
        t = s.tenants.get(tenant);
        int done = 0;
        for (String step : buffer.split(";")) {
            if (!did(step, t)) {
                break;
            }
            done++;
        }
        buffer = "";
        return done;
    }

    private boolean did(String step, Tenant t) {
        if (step.equals("b")) {
            if (s.debts.isEmpty()) {
                return false;
            }
            s.writeBack();
            return true;
        }
        if (step.startsWith("t")) {
            int ticks = Integer.parseInt(step.substring(1));
            if (s.time + ticks > 10000) {
                return false;
            }
            for (int i = 0; i < ticks; i++) {
                s.tick();
            }
            return true;
        }
        Core c = s.cores.get(Integer.parseInt(step.substring(1, 3), 8));
        if (c.tenant != t) {
            return false;
        }
        if (step.startsWith("w")) {
            s.write(c, step.endsWith("1"));
            return true;
        }
        if (!s.readable(c)) {
            return false;
        }
        s.read(c);
        return true;
    }

    int undo() {
        state(!saved.isEmpty());
        s = saved.remove(saved.size() - 1);
        return saved.size();
    }

    int core(int core, int what) {
        Core c = coreAt(core);
        argument(what >= 0 && what <= 8);
        Debt d = s.debtOf(c);
        int[] all = {c.bit ? 1 : 0, c.strength, s.tenants.indexOf(c.tenant), c.tenant == null ? 0 : c.leaseLeft,
            s.insurers.indexOf(c.insurer), c.insurer == null ? 0 : c.policyLeft, d == null ? 0 : 1,
            d == null ? -1 : d.due, c.lost};
        return all[what];
    }

    int tenant(int tenant, int what) {
        Tenant t = tenantAt(tenant);
        argument(what >= 0 && what <= 5);
        int leased = 0;
        int insured = 0;
        for (Core c : s.cores) {
            leased += c.tenant == t ? 1 : 0;
            insured += c.tenant == t && c.insurer != null ? 1 : 0;
        }
        int waiting = 0;
        for (Insurer n : s.insurers) {
            for (Tenant w : n.waiting) {
                waiting += w == t ? 1 : 0;
            }
        }
        int[] all = {t.money, leased, insured, t.lost, t.paid, waiting};
        return all[what];
    }

    int insurer(int insurer, int what) {
        Insurer n = insurerAt(insurer);
        argument(what >= 0 && what <= 6);
        int policies = 0;
        for (Core c : s.cores) {
            policies += c.insurer == n ? 1 : 0;
        }
        int[] all = {n.fund, n.rate, n.cover, policies, n.paidClaims, n.waiting.size(), n.premiums};
        return all[what];
    }

    int owed(int place, int what) {
        argument(place >= 0 && place < 64 && what >= 0 && what <= 1);
        List<Debt> sorted = s.inOrder();
        if (place >= sorted.size()) {
            return -1;
        }
        return what == 0 ? sorted.get(place).core.number : sorted.get(place).due;
    }

    int weakest(int place) {
        argument(place >= 0 && place < 64);
        List<Core> sorted = new ArrayList<>(s.cores);
        sorted.sort(Comparator.<Core>comparingInt(c -> c.strength).thenComparingInt(c -> c.number));
        return sorted.get(place).number;
    }

    int count(int what) {
        argument(what >= 0 && what <= 18);
        int leased = 0;
        int policies = 0;
        int ones = 0;
        for (Core c : s.cores) {
            leased += c.tenant != null ? 1 : 0;
            policies += c.insurer != null ? 1 : 0;
            ones += c.bit ? 1 : 0;
        }
        int[] all = {s.time, s.heat, s.tenants.size(), s.insurers.size(), leased, policies, s.debts.size(), ones,
            s.reads, s.destroyed, s.back, s.weak, s.late, s.disturbed, s.overwritten, s.dropped, s.house, s.spent,
            saved.size()};
        return all[what];
    }

    int setting(int setting) {
        index(setting >= 0 && setting < 8);
        return s.settings[setting];
    }

    int premium(int core, int insurer, int ticks) {
        Core c = coreAt(core);
        Insurer n = insurerAt(insurer);
        argument(ticks >= 1 && ticks <= 200);
        return s.premium(c, n, ticks);
    }

    int cheapest(int core, int cover, int ticks) {
        Core c = coreAt(core);
        argument(cover >= 1 && cover <= 500 && ticks >= 1 && ticks <= 200);
        return s.insurers.stream().filter(n -> n.cover >= cover)
            .min(Comparator.comparingInt(n -> s.premium(c, n, ticks))).map(s.insurers::indexOf).orElse(-1);
    }

    int waitFor(int core, int insurer, int ticks, int most) {
        Core c = coreAt(core);
        insurerAt(insurer);
        argument(ticks >= 1 && ticks <= 200 && most >= 1 && most <= 10000);
        State later = s.copy();
        for (int wait = 0; wait <= 200; wait++) {
            if (later.premium(later.cores.get(c.number), later.insurers.get(insurer), ticks) <= most) {
                return wait;
            }
            later.tick();
        }
        return -1;
    }

    int ifRead(int core, int what) {
        Core c = coreAt(core);
        argument(what >= 0 && what <= 4);
        int policies = 0;
        for (Core o : s.wouldDisturb(c)) {
            policies += o.insurer != null ? 1 : 0;
        }
        State then = s.copy();
        int bit = then.read(then.cores.get(core));
        int[] all = {bit, then.disturbed - s.disturbed, then.heat, then.cores.get(core).strength, policies};
        return all[what];
    }

    int gentlest() {
        return s.cores.stream().filter(c -> s.readable(c) && c.bit)
            .min(Comparator.<Core>comparingInt(c -> s.wouldDisturb(c).size()).thenComparingInt(c -> -c.strength)
                .thenComparingInt(c -> c.number)).map(c -> c.number).orElse(-1);
    }

    int savable(int pace) {
        argument(pace >= 1 && pace <= 9);
        State then = s.copy();
        while (!then.debts.isEmpty()) {
            for (int i = 0; i < pace && !then.debts.isEmpty(); i++) {
                then.writeBack();
            }
            then.tick();
        }
        return then.back - s.back;
    }

    int atRisk(int tenant) {
        Tenant t = tenantAt(tenant);
        int most = 0;
        for (Core c : s.cores) {
            if (s.readable(c)) {
                State then = s.copy();
                then.read(then.cores.get(c.number));
                most = Math.max(most, then.tenants.get(tenant).lost - t.lost);
            }
        }
        return most;
    }

    double backShare() {
        return s.destroyed == 0 ? 0.0 : (double) s.back / s.destroyed;
    }

    long digest() {
        List<Long> values = new ArrayList<>();
        for (int i = 0; i <= 18; i++) {
            values.add((long) count(i));
        }
        for (int i = 0; i < 8; i++) {
            values.add((long) setting(i));
        }
        for (int i = 0; i < 64; i++) {
            for (int w = 0; w <= 8; w++) {
                values.add((long) core(i, w));
            }
            values.add((long) s.wouldDisturb(s.cores.get(i)).size());
        }
        for (int i = 0; i < s.tenants.size(); i++) {
            for (int w = 0; w <= 5; w++) {
                values.add((long) tenant(i, w));
            }
            values.add((long) atRisk(i));
        }
        for (int i = 0; i < s.insurers.size(); i++) {
            for (int w = 0; w <= 6; w++) {
                values.add((long) insurer(i, w));
            }
        }
        for (Debt d : s.inOrder()) {
            values.add((long) d.core.number);
            values.add((long) d.due);
        }
        for (int i = 0; i < 8; i++) {
            values.add((long) weakest(i));
        }
        values.add((long) gentlest());
        values.add((long) savable(1));
        values.add((long) savable(3));
        values.add(Double.doubleToLongBits(backShare()));
        values.add((long) buffer.length());
        for (char c : buffer.toCharArray()) {
            values.add((long) c);
        }
        long hash = 2351;
        for (long v : values) {
            hash = 31 * hash + v;
        }
        return hash;
    }
}

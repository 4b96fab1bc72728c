import java.util.ArrayList;
import java.util.List;

/**
 * A run of calls on one CoreLeases. It counts them, since no more than 512 are promised, and can make them again on
 * a new object: so the whole state can be looked at, and a call be tried, without a call too many on any object.
 */
final class Run {

    /** A call of the face. */
    interface Call {
        Object on(CoreLeases x);
    }

    /** A call of the face with a number that varies. */
    interface CallWith {
        Object on(CoreLeases x, int value);
    }

    static final int MOST_CALLS = 512;

    /** A core that the builders below heat the plane with; it stands in the last row and column. */
    static final int HEATER = 63;

    private static final int[] FAR = {Integer.MIN_VALUE, Integer.MAX_VALUE};

    private final CoreLeases x = new CoreLeases();
    private final List<Call> calls = new ArrayList<>();

    // ---- calls

    private Object call(Call c) {
        if (calls.size() >= MOST_CALLS) {
            throw new AssertionError("a test makes more than " + MOST_CALLS + " calls on one object");
        }
        calls.add(c);
        return c.on(x);
    }

    private int number(Call c) {
        return (Integer) call(c);
    }

    int made() {
        return calls.size();
    }

    int addTenant(int money) {
        return number(o -> o.addTenant(money));
    }

    int addInsurer(int fund, int rate, int cover) {
        return number(o -> o.addInsurer(fund, rate, cover));
    }

    int set(int setting, int value) {
        return number(o -> o.set(setting, value));
    }

    int lease(int core, int tenant, int ticks) {
        return number(o -> o.lease(core, tenant, ticks));
    }

    int insure(int core, int insurer, int ticks) {
        return number(o -> o.insure(core, insurer, ticks));
    }

    int renew(int core) {
        return number(o -> o.renew(core));
    }

    int write(int core, boolean bit) {
        return number(o -> o.write(core, bit));
    }

    int read(int core) {
        return number(o -> o.read(core));
    }

    int writeBack() {
        return number(o -> o.writeBack());
    }

    int pass(int ticks) {
        return number(o -> o.pass(ticks));
    }

    int append(int code) {
        return number(o -> o.append(code));
    }

    int clearBuffer() {
        return number(o -> o.clearBuffer());
    }

    int firstError() {
        return number(o -> o.firstError());
    }

    int run(int tenant) {
        return number(o -> o.run(tenant));
    }

    int undo() {
        return number(o -> o.undo());
    }

    int core(int core, int what) {
        return number(o -> o.core(core, what));
    }

    int tenant(int tenant, int what) {
        return number(o -> o.tenant(tenant, what));
    }

    int insurer(int insurer, int what) {
        return number(o -> o.insurer(insurer, what));
    }

    int owed(int place, int what) {
        return number(o -> o.owed(place, what));
    }

    int weakest(int place) {
        return number(o -> o.weakest(place));
    }

    int count(int what) {
        return number(o -> o.count(what));
    }

    int setting(int setting) {
        return number(o -> o.setting(setting));
    }

    int premium(int core, int insurer, int ticks) {
        return number(o -> o.premium(core, insurer, ticks));
    }

    int cheapest(int core, int cover, int ticks) {
        return number(o -> o.cheapest(core, cover, ticks));
    }

    int waitFor(int core, int insurer, int ticks, int most) {
        return number(o -> o.waitFor(core, insurer, ticks, most));
    }

    int ifRead(int core, int what) {
        return number(o -> o.ifRead(core, what));
    }

    int gentlest() {
        return number(o -> o.gentlest());
    }

    int savable(int pace) {
        return number(o -> o.savable(pace));
    }

    int atRisk(int tenant) {
        return number(o -> o.atRisk(tenant));
    }

    double backShare() {
        return (Double) call(o -> o.backShare());
    }

    long digest() {
        return (Long) call(o -> o.digest());
    }

    // ---- states to begin with

    /** Two tenants with 10000 each, an insurer with nothing, and no rent, heat or disturbing. */
    Run calm() {
        addTenant(10000);
        addTenant(10000);
        addInsurer(0, 100, 50);
        for (int setting : new int[] {0, 1, 2, 5}) {
            set(setting, 0);
        }
        return this;
    }

    /** Leases a core to the tenant 0 for as long as can be, and writes a 1. */
    void one(int core) {
        lease(core, 0, 200);
        write(core, true);
    }

    void ones(int... cores) {
        for (int core : cores) {
            one(core);
        }
    }

    /** Behind calm(): all the cores have the bit 1 and the strength 99. */
    void allOnes() {
        for (int core = 0; core < 64; core++) {
            one(core);
        }
    }

    /** Behind calm(): brings the heat up by writes on the heater. */
    void heatTo(int heat) {
        if (core(HEATER, 2) == CoreLeases.NONE) {
            lease(HEATER, 1, 200);
        }
        for (int now = count(1); now < heat; now = count(1)) {
            set(1, Math.min(20, heat - now));
            write(HEATER, false);
        }
        set(1, 0);
    }

    /** Behind calm(): a leased core gets the bit 1 and a strength less than 100, while the heat becomes 100. */
    void weaken(int core, int strength) {
        set(4, 0);
        for (int i = 0; i < (100 - strength) % 5; i++) {
            write(core, true);
        }
        heatTo(100);
        for (int i = 0; i < (100 - strength) / 5; i++) {
            write(core, true);
        }
        same("strength", strength, core(core, 1));
    }

    /** Lets ticks pass until a time. */
    void late(int time) {
        for (int left = time - count(0); left > 0; left -= 100) {
            pass(Math.min(100, left));
        }
        same("time", time, count(0));
    }

    void type(String text) {
        for (int i = 0; i < text.length(); i++) {
            append(text.charAt(i));
        }
    }

    /** Something of everything, with as many saved states as can be. */
    Run busy() {
        calm();
        addInsurer(300, 7, 20);
        for (int core = 0; core < 6; core++) {
            lease(core, core % 2, 100 + core);
            write(core, true);
        }
        lease(8, 1, 9);
        lease(9, 0, 2);
        set(0, 1);
        set(1, 4);
        set(2, 3);
        set(3, 2);
        insure(0, 0, 10);
        insure(1, 0, 12);
        insure(4, 1, 30);
        insure(5, 0, 5);
        lease(20, 0, 40);
        write(20, true);
        write(9, true);
        read(3);
        writeBack();
        set(5, 100);
        write(9, false);
        set(5, 40);
        write(8, true);
        pass(2);
        read(8);
        pass(1);
        read(5);
        read(4);
        type("w00=1;b;t3");
        return this;
    }

    // ---- checks

    void same(String what, long want, long got) {
        Bounds.same(what, want, got);
    }

    /** Checks the first properties of a core. */
    void sameCore(String when, int core, int... due) {
        for (int i = 0; i < due.length; i++) {
            same(when + ", core(" + core + ", " + i + ")", due[i], core(core, i));
        }
    }

    /** Checks numbers of count: what, due, what, due.. */
    void sameCounts(String when, int... whatAndDue) {
        for (int i = 0; i + 1 < whatAndDue.length; i += 2) {
            same(when + ", count(" + whatAndDue[i] + ")", whatAndDue[i + 1], count(whatAndDue[i]));
        }
    }

    void noIndex(String told, Call c) {
        refused(IndexOutOfBoundsException.class, told, c);
    }

    void noArgument(String told, Call c) {
        refused(IllegalArgumentException.class, told, c);
    }

    void noState(String told, Call c) {
        refused(IllegalStateException.class, told, c);
    }

    /** Checks that a call throws for each of some values, and for the least and the greatest int. */
    void noIndex(String told, CallWith c, int... values) {
        refusedForEach(IndexOutOfBoundsException.class, told, c, values);
    }

    void noArgument(String told, CallWith c, int... values) {
        refusedForEach(IllegalArgumentException.class, told, c, values);
    }

    private void refusedForEach(Class<?> want, String told, CallWith c, int... values) {
        for (int[] some : new int[][] {values, FAR}) {
            for (int value : some) {
                refused(want, told + " with " + value, o -> c.on(o, value));
            }
        }
    }

    /** Checks that a call would throw just this, and that nothing would have changed after it. */
    private void refused(Class<?> want, String told, Call c) {
        Bounds.same(told, "throws " + want.getName(), answer(again(), c));
        leavesAll(told, c);
    }

    /** Checks that all goes on behind a call as if it had not been made. */
    void leavesAll(String told, Call c) {
        for (Call[] later : new Call[][] {BACK, ON}) {
            CoreLeases without = again();
            CoreLeases with = again();
            answer(with, c);
            Bounds.same("what comes behind " + told, seen(without, later), seen(with, later));
        }
    }

    /** Makes all the calls of this run on a new object. */
    CoreLeases again() {
        CoreLeases y = new CoreLeases();
        for (Call c : calls) {
            answer(y, c);
        }
        return y;
    }

    /** The answers of calls that change nothing, each on an object that has room for it. */
    private List<Object> answers(List<Call> asked) {
        List<Object> all = new ArrayList<>();
        CoreLeases y = null;
        for (int i = 0, left = 0; i < asked.size(); i++, left--) {
            if (left == 0) {
                y = again();
                left = MOST_CALLS - calls.size();
            }
            all.add(asked.get(i).on(y));
        }
        return all;
    }

    /** The digest as promise 32 tells it, out of the other answers of the face and the text in the buffer. */
    long toldDigest(String text) {
        CoreLeases y = again();
        List<Call> asked = new ArrayList<>();
        ask(asked, 19, (o, i) -> o.count(i));
        ask(asked, 8, (o, i) -> o.setting(i));
        for (int n = 0; n < 64; n++) {
            int core = n;
            ask(asked, 9, (o, i) -> o.core(core, i));
            asked.add(o -> o.ifRead(core, 1));
        }
        for (int n = 0; n < y.count(2); n++) {
            int tenant = n;
            ask(asked, 6, (o, i) -> o.tenant(tenant, i));
            asked.add(o -> o.atRisk(tenant));
        }
        for (int n = 0; n < y.count(3); n++) {
            int insurer = n;
            ask(asked, 7, (o, i) -> o.insurer(insurer, i));
        }
        for (int n = 0; n < y.count(6); n++) {
            int place = n;
            ask(asked, 2, (o, i) -> o.owed(place, i));
        }
        ask(asked, 8, (o, i) -> o.weakest(i));
        asked.add(o -> o.gentlest());
        asked.add(o -> o.savable(1));
        asked.add(o -> o.savable(3));
        asked.add(o -> Double.doubleToLongBits(o.backShare()));
        long hash = 2351;
        for (Object value : answers(asked)) {
            hash = 31 * hash + ((Number) value).longValue();
        }
        hash = 31 * hash + text.length();
        for (char c : text.toCharArray()) {
            hash = 31 * hash + c;
        }
        return hash;
    }

    private static void ask(List<Call> asked, int many, CallWith c) {
        for (int n = 0; n < many; n++) {
            int i = n;
            asked.add(o -> c.on(o, i));
        }
    }

    private static String answer(CoreLeases y, Call c) {
        try {
            return c.on(y).toString();
        } catch (RuntimeException e) {
            return "throws " + e.getClass().getName();
        }
    }

    private static final Call[] BACK = {
        o -> o.firstError(), o -> o.undo(), o -> o.undo(), o -> o.undo(), o -> o.undo(), o -> o.undo(), o -> o.undo(),
        o -> o.undo()};

    private static final Call[] ON = {
        o -> o.clearBuffer(), o -> o.writeBack(), o -> o.lease(40, 1, 9), o -> o.insure(40, 0, 9), o -> o.write(40, true),
        o -> o.read(40), o -> o.pass(3), o -> o.insure(20, 1, 9), o -> o.renew(50), o -> o.addTenant(7),
        o -> o.addInsurer(5, 6, 7), o -> o.set(0, 3), o -> o.pass(50)};

    /** The answers of some calls, with the digest ahead of each and behind the last one. */
    private String seen(CoreLeases y, Call[] later) {
        StringBuilder all = new StringBuilder().append(y.digest());
        int left = MOST_CALLS - calls.size() - 2;
        for (int i = 0; i < later.length && 2 * i + 2 <= left; i++) {
            all.append(' ').append(answer(y, later[i])).append(' ').append(y.digest());
        }
        return all.toString();
    }
}

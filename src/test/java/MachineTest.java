import java.util.Random;
import java.util.function.ToIntFunction;

/**
 * The Java machine itself never throws in the class: in long runs with arguments of every kind, also far behind the
 * 512th call, a call throws nothing but what the face names, and that by a throw of the class's own.
 */
public final class MachineTest {

    private static final int RUNS = 60;
    private static final int CALLS = 20000;

    private static final String I = "IndexOutOfBoundsException";
    private static final String A = "IllegalArgumentException";
    private static final String S = "IllegalStateException";

    private static int wrong = 0;

    private final Random random;
    private final CoreLeases x = new CoreLeases();
    private final boolean wild;

    private MachineTest(long seed) {
        random = new Random(seed);
        wild = seed % 3 == 0;
    }

    public static void main(String[] args) {
        for (int seed = 0; seed < RUNS && wrong < 10; seed++) {
            MachineTest run = new MachineTest(seed);
            for (int i = 0; i < CALLS && wrong < 10; i++) {
                run.oneCall();
            }
        }
        claimsBeyondAll();
        textsOfEverySign();
        System.out.println("calls that threw what they must not: " + wrong);
        System.exit(wrong == 0 ? 0 : 1);
    }

    /** Each call that is made here must end, or throw one of the exceptions that the face names for it. */
    private static void call(CoreLeases x, String named, String may, ToIntFunction<CoreLeases> c) {
        try {
            c.applyAsInt(x);
        } catch (RuntimeException | Error e) {
            // What the machine throws is of another class, or begins elsewhere than in the class.
            boolean own = (" " + may + " ").contains(" " + e.getClass().getSimpleName() + " ")
                && e.getStackTrace()[0].getClassName().equals("CoreLeases")
                && e.getStackTrace()[0].getMethodName().startsWith("require");
            if (!own) {
                wrong++;
                System.out.println(named + " threw " + e + " at " + e.getStackTrace()[0]);
            }
        }
    }

    private int any(int least, int most) {
        int[] ends = {least, most, least - 1, most + 1, 0, -1, Integer.MIN_VALUE, Integer.MAX_VALUE, 1 << 16, -64};
        boolean end = random.nextInt(wild ? 3 : 25) == 0;
        return end ? ends[random.nextInt(ends.length)] : least + random.nextInt(most - least + 1);
    }

    private void oneCall() {
        int core = any(0, random.nextInt(4) == 0 ? 63 : 17);
        int tenant = any(0, 5);
        int insurer = any(0, 2);
        int ticks = any(1, 200);
        switch (random.nextInt(12)) {
            case 0:
                build(any(0, 10000), any(1, 200), any(1, 500));
                break;
            case 1:
                call(x, "set", I + " " + A, o -> o.set(any(0, 7), any(0, random.nextBoolean() ? 10 : 100)));
                break;
            case 2:
                call(x, "lease", I + " " + A + " " + S, o -> o.lease(core, tenant, ticks));
                call(x, "renew", I + " " + S, o -> o.renew(core));
                break;
            case 3:
                call(x, "insure", I + " " + A + " " + S, o -> o.insure(core, insurer, any(1, 9)));
                break;
            case 4:
            case 5:
                call(x, "write", I + " " + S, o -> o.write(core, random.nextInt(4) != 0));
                break;
            case 6:
                call(x, "read", I + " " + S, o -> o.read(core));
                break;
            case 7:
                call(x, "writeBack", S, o -> o.writeBack());
                break;
            case 8:
                call(x, "pass", A + " " + S, o -> o.pass(random.nextInt(9) == 0 ? any(1, 100) : 1));
                break;
            case 9:
                type(tenant);
                break;
            case 10:
                call(x, "undo", S, o -> random.nextInt(3) == 0 ? o.undo() : 0);
                break;
            default:
                ask(core, tenant, insurer, ticks);
                break;
        }
    }

    private void build(int money, int rate, int cover) {
        call(x, "addTenant", A + " " + S, o -> o.addTenant(money));
        call(x, "addInsurer", A + " " + S, o -> o.addInsurer(money, rate, cover));
    }

    private void type(int tenant) {
        String[] steps = {"r", "w", "b", "t", ";", "=", "0", "1", "r00;", "r01;", "w00=1;", "w01=1;", "b;", "t9;", "t1"};
        String text = steps[random.nextInt(steps.length)];
        for (int i = 0; i < text.length(); i++) {
            int code = random.nextInt(60) == 0 ? any(33, 126) : text.charAt(i);
            call(x, "append", A + " " + S, o -> o.append(code));
        }
        call(x, "firstError", "", o -> o.firstError());
        call(x, "run", I + " " + A, o -> random.nextInt(2) == 0 ? o.run(tenant) : 0);
        call(x, "clearBuffer", "", o -> random.nextInt(8) == 0 ? o.clearBuffer() : 0);
    }

    private void ask(int core, int tenant, int insurer, int ticks) {
        call(x, "core", I + " " + A, o -> o.core(core, any(0, 8)));
        call(x, "tenant", I + " " + A, o -> o.tenant(tenant, any(0, 5)));
        call(x, "insurer", I + " " + A, o -> o.insurer(insurer, any(0, 6)));
        call(x, "owed", A, o -> o.owed(any(0, 63), any(0, 1)));
        call(x, "weakest", A, o -> o.weakest(any(0, 63)));
        call(x, "count", A, o -> o.count(any(0, 18)));
        call(x, "setting", I, o -> o.setting(any(0, 7)));
        call(x, "premium", I + " " + A, o -> o.premium(core, insurer, ticks));
        call(x, "cheapest", I + " " + A, o -> o.cheapest(core, any(1, 500), ticks));
        call(x, "waitFor", I + " " + A, o -> o.waitFor(core, insurer, ticks, any(1, 10000)));
        call(x, "ifRead", I + " " + A, o -> o.ifRead(core, any(0, 4)));
        call(x, "gentlest", "", o -> o.gentlest());
        call(x, "savable", A, o -> o.savable(any(1, 9)));
        call(x, "atRisk", I, o -> o.atRisk(tenant));
        call(x, "backShare", "", o -> o.backShare() >= 0.0 ? 1 : 0);
        call(x, "digest", "", o -> (int) o.digest());
    }

    /** More claims wait than can come in 512 calls. */
    private static void claimsBeyondAll() {
        CoreLeases x = new CoreLeases();
        call(x, "addTenant", "", o -> o.addTenant(10000));
        call(x, "addInsurer", "", o -> o.addInsurer(0, 1, 500));
        call(x, "set", "", o -> o.set(1, 0));
        call(x, "set", "", o -> o.set(4, 0));
        call(x, "set", "", o -> o.set(5, 100));
        call(x, "lease", "", o -> o.lease(0, 0, 200));
        call(x, "lease", "", o -> o.lease(1, 0, 200));
        for (int i = 0; i < 2000; i++) {
            call(x, "write", "", o -> o.write(0, true));
            call(x, "insure", "", o -> o.insure(0, 0, 1));
            call(x, "write", "", o -> o.write(1, true));
            call(x, "tenant", "", o -> o.tenant(0, 5));
            call(x, "insurer", "", o -> o.insurer(0, 5));
        }
        call(x, "digest", "", o -> (int) o.digest());
    }

    /** Texts of every sign, each also where the steps of a program need another one, or end. */
    private static void textsOfEverySign() {
        String[] begins = {"", "r", "r0", "r00", "w", "w0", "w00", "w00=", "w00=1", "b", "t", "t1", "b;"};
        for (String begin : begins) {
            for (int code = 33; code <= 126; code++) {
                CoreLeases x = new CoreLeases();
                call(x, "addTenant", "", o -> o.addTenant(0));
                for (int i = 0; i < begin.length(); i++) {
                    int sign = begin.charAt(i);
                    call(x, "append", "", o -> o.append(sign));
                }
                int last = code;
                call(x, "append", "", o -> o.append(last));
                call(x, "firstError", "", o -> o.firstError());
                call(x, "run", A, o -> o.run(0));
                call(x, "digest", "", o -> (int) o.digest());
            }
        }
    }
}

import java.util.Arrays;

/**
 * Long runs of calls by a fixed row of numbers: ContainerHost must answer as PlainHost does. A run ends
 * with calls that look alone: they tell also whether a call that threw changed something.
 */
public final class RandomRunsTest {
    private static final int RUNS = 1000;
    /** An object is promised no more than 512 calls. */
    private static final int CALLS = 400;
    private static final int LOOKS = 112;
    private static final int KINDS = 42;
    private static final int[] ODD = {Integer.MIN_VALUE, Integer.MIN_VALUE + 1, -1000, -2, -1, 0, 1, 2, 3, 4, 5,
        6, 7, 8, 9, 10, 15, 16, 19, 20, 31, 32, 33, 99, 100, 101, 999, 1000, 5000, 5001, 10000, 10001,
        Integer.MAX_VALUE - 1, Integer.MAX_VALUE};
    /** The calls that a run needs most, so that it gets somewhere. */
    private static final int[] FREQUENT = {1, 2, 3, 11, 13, 13, 15, 15, 16, 17, 20, 20, 21, 24, 28, 30, 30, 31,
        32, 32, 33};
    /** Calls that end containers or use up what is limited come more seldom. */
    private static final int[] SELDOM = {0, 4, 7, 8, 14, 27, 34};
    private static final int[] LOOKING = {5, 6, 9, 10, 22, 22, 23, 23, 33, 33, 37, 38, 39, 40, 41};
    /** Each run begins with some images, groups and containers. */
    private static final int[] FIRST = {0, 1, 1, 1, 1, 1, 4, 0, 1, 2, 3, 4, 8, 8, 8, 11, 11, 11, 11, 11, 0, 1};
    private static final Check check = new Check("RandomRunsTest");

    private final ContainerHost real = new ContainerHost();
    private final PlainHost plain = new PlainHost();
    private long seed;

    private RandomRunsTest(int run) {
        seed = 1000003L * run + 17;
    }

    public static void main(String[] args) {
        for (int run = 0; run < RUNS; run++) {
            if (!new RandomRunsTest(run).passes(run)) {
                break;
            }
        }
        check.finish();
    }

    private boolean passes(int run) {
        for (int call = 0; call < CALLS; call++) {
            int kind = call < FIRST.length ? FIRST[call] : kind();
            if (!answersTheSame("run " + run + ", call " + call, kind, arguments(kind))) {
                return false;
            }
        }
        for (int look = 0; look < LOOKS; look++) {
            int kind = LOOKING[next(LOOKING.length)];
            if (!answersTheSame("run " + run + ", look " + look, kind, arguments(kind))) {
                return false;
            }
        }
        return true;
    }

    private int kind() {
        int kind = next(2) == 0 ? FREQUENT[next(FREQUENT.length)] : next(KINDS);
        for (int seldom : SELDOM) {
            if (kind == seldom && next(4) != 0) {
                return next(KINDS);
            }
        }
        return kind;
    }

    private boolean answersTheSame(String when, int kind, int[] a) {
        String got = told(() -> ownThrow(() -> onReal(kind, a)));
        String due = told(() -> onPlain(kind, a));
        if (!got.equals(due)) {
            check.report(when + ", kind " + kind + Arrays.toString(a) + " answered " + got + ", due is " + due);
        }
        return got.equals(due);
    }

    private int next(int bound) {
        seed = seed * 6364136223846793005L + 1442695040888963407L;
        return (int) ((seed >>> 33) % bound);
    }

    /** Mostly a number below the bound, now and then an odd one. */
    private int among(int bound) {
        return next(50) == 0 ? ODD[next(ODD.length)] : next(Math.max(1, bound));
    }

    /** Mostly a number of the first few, so that calls meet one another. */
    private int few(int bound) {
        return next(4) == 0 ? among(bound) : among(Math.min(bound, 6));
    }

    private int oneTo(int most) {
        return next(50) == 0 ? ODD[next(ODD.length)] : 1 + next(most);
    }

    /** Mostly a container that has not stopped. */
    private int container() {
        int number = among(plain.containers());
        for (int tries = 0; tries < 8 && hasStopped(number); tries++) {
            number = among(plain.containers());
        }
        return number;
    }

    private boolean hasStopped(int number) {
        return number >= 0 && number < plain.containers() && plain.stateOf(number) == ContainerHost.STOPPED;
    }

    private int image() {
        return next(3) == 0 ? among(plain.images()) : plain.images() - 1;
    }

    private int group() {
        return among(plain.groups());
    }

    private int port() {
        return next(3) == 0 ? among(16) : among(5);
    }

    private int units() {
        return next(12) == 0 ? oneTo(5000) : oneTo(150);
    }

    private int processes() {
        return next(2) == 0 ? oneTo(100) : oneTo(6);
    }

    private int capabilities() {
        return next(3) == 0 ? among(16) : 15;
    }

    private int[] arguments(int kind) {
        switch (kind) {
            case 0: return new int[] {next(2) == 0 ? -1 : image()};
            case 1: return new int[] {image(), few(32), oneTo(999)};
            case 2: case 6: return new int[] {image(), few(32)};
            case 3: return new int[] {image(), few(8)};
            case 4: return new int[] {image()};
            case 5: return new int[] {image(), among(9)};
            case 8: return new int[] {group(), next(3) == 0 ? oneTo(10000) : oneTo(600), processes(), oneTo(100)};
            case 9: case 10: return new int[] {group()};
            case 11: return new int[] {image(), group(), capabilities(), oneTo(100)};
            case 15: case 16: return new int[] {container(), units()};
            case 19: return new int[] {next(2) == 0 ? oneTo(10000) : oneTo(50)};
            case 20: return new int[] {container(), few(32), oneTo(999)};
            case 21: case 22: case 23: return new int[] {container(), few(32)};
            case 24: case 25: case 26: case 28: return new int[] {container(), among(4)};
            case 27: return new int[] {container(), container()};
            case 30: return new int[] {container(), port()};
            case 31: return new int[] {container(), port(), few(32)};
            case 32: return new int[] {container(), oneTo(6), port()};
            case 33: return new int[] {few(32)};
            case 35: return new int[] {among(plain.checkpoints()), group()};
            case 36: return new int[0];
            default: return new int[] {container()};
        }
    }

    private static String told(Check.Call call) {
        try {
            return String.valueOf(call.answer());
        } catch (RuntimeException thrown) {
            return thrown.getClass().getName();
        }
    }

    /** Tells a throw of the machine or of a list from one of the host. */
    private static int ownThrow(Check.Call call) {
        try {
            return call.answer();
        } catch (RuntimeException thrown) {
            if (!Check.thrownByHost(thrown)) {
                throw new UnsupportedOperationException("not thrown by the host", thrown);
            }
            throw thrown;
        }
    }

    private int onReal(int kind, int[] a) {
        switch (kind) {
            case 0: return real.newImage(a[0]);
            case 1: return real.write(a[0], a[1], a[2]);
            case 2: return real.remove(a[0], a[1]);
            case 3: return real.clear(a[0], a[1]);
            case 4: return real.seal(a[0]);
            case 5: return real.entries(a[0], a[1]);
            case 6: return real.shown(a[0], a[1]);
            case 7: return real.commit(a[0]);
            case 8: return real.newGroup(a[0], a[1], a[2], a[3]);
            case 9: return real.groupMemory(a[0]);
            case 10: return real.groupProcesses(a[0]);
            case 11: return real.run(a[0], a[1], a[2], a[3]);
            case 12: real.pause(a[0]); return 0;
            case 13: real.resume(a[0]); return 0;
            case 14: return real.stop(a[0]);
            case 15: return real.allocate(a[0], a[1]);
            case 16: return real.free(a[0], a[1]);
            case 17: return real.fork(a[0]);
            case 18: return real.exit(a[0]);
            case 19: return real.schedule(a[0]);
            case 20: return real.writeFile(a[0], a[1], a[2]);
            case 21: return real.removeFile(a[0], a[1]);
            case 22: return real.fileOf(a[0], a[1]);
            case 23: return real.plainFileOf(a[0], a[1]);
            case 24: return real.raise(a[0], a[1]);
            case 25: return real.lower(a[0], a[1]);
            case 26: return real.drop(a[0], a[1]);
            case 27: return real.kill(a[0], a[1]);
            case 28: return real.attach(a[0], a[1]);
            case 29: return real.detach(a[0]);
            case 30: return real.listen(a[0], a[1]);
            case 31: return real.publish(a[0], a[1], a[2]);
            case 32: return real.connect(a[0], a[1], a[2]);
            case 33: return real.connectHost(a[0]);
            case 34: return real.save(a[0]);
            case 35: return real.restore(a[0], a[1]);
            case 36: return real.containers();
            case 37: return real.stateOf(a[0]);
            case 38: return real.memoryOf(a[0]);
            case 39: return real.timeOf(a[0]);
            case 40: return real.capabilitiesOf(a[0]);
            default: return real.addressOf(a[0]);
        }
    }

    private int onPlain(int kind, int[] a) {
        switch (kind) {
            case 0: return plain.newImage(a[0]);
            case 1: return plain.write(a[0], a[1], a[2]);
            case 2: return plain.remove(a[0], a[1]);
            case 3: return plain.clear(a[0], a[1]);
            case 4: return plain.seal(a[0]);
            case 5: return plain.entries(a[0], a[1]);
            case 6: return plain.shown(a[0], a[1]);
            case 7: return plain.commit(a[0]);
            case 8: return plain.newGroup(a[0], a[1], a[2], a[3]);
            case 9: return plain.groupMemory(a[0]);
            case 10: return plain.groupProcesses(a[0]);
            case 11: return plain.run(a[0], a[1], a[2], a[3]);
            case 12: return plain.pause(a[0]);
            case 13: return plain.resume(a[0]);
            case 14: return plain.stop(a[0]);
            case 15: return plain.allocate(a[0], a[1]);
            case 16: return plain.free(a[0], a[1]);
            case 17: return plain.fork(a[0]);
            case 18: return plain.exit(a[0]);
            case 19: return plain.schedule(a[0]);
            case 20: return plain.writeFile(a[0], a[1], a[2]);
            case 21: return plain.removeFile(a[0], a[1]);
            case 22: case 23: return plain.plainFileOf(a[0], a[1]);
            case 24: return plain.raise(a[0], a[1]);
            case 25: return plain.lower(a[0], a[1]);
            case 26: return plain.drop(a[0], a[1]);
            case 27: return plain.kill(a[0], a[1]);
            case 28: return plain.attach(a[0], a[1]);
            case 29: return plain.detach(a[0]);
            case 30: return plain.listen(a[0], a[1]);
            case 31: return plain.publish(a[0], a[1], a[2]);
            case 32: return plain.connect(a[0], a[1], a[2]);
            case 33: return plain.connectHost(a[0]);
            case 34: return plain.save(a[0]);
            case 35: return plain.restore(a[0], a[1]);
            case 36: return plain.containers();
            case 37: return plain.stateOf(a[0]);
            case 38: return plain.memoryOf(a[0]);
            case 39: return plain.timeOf(a[0]);
            case 40: return plain.capabilitiesOf(a[0]);
            default: return plain.addressOf(a[0]);
        }
    }
}

/** Promises 26 to 29: capabilities. */
public final class CapabilitiesTest {
    private static final int BIND = ContainerHost.BIND;
    private static final int ADMIN = ContainerHost.ADMIN;
    private static final int ATTACH = ContainerHost.ATTACH;
    private static final int KILL = ContainerHost.KILL;
    private static final int[] WRONG_NUMBERS = {-1, Integer.MIN_VALUE, Integer.MAX_VALUE};
    private static final Check check = new Check("CapabilitiesTest");

    public static void main(String[] args) {
        raiseAnswers();
        lowerAnswers();
        dropAnswers();
        refusals();
        killStops();
        killRefuses();
        killWithinGroups();
        everySetAndCapability();
        killUpAndDownThePath();
        check.finish();
    }

    private static void raiseAnswers() {
        ContainerHost x = Hosts.withImage();
        x.run(0, 0, 11, 1);
        check.equal("26: effective already", 11, x.raise(0, BIND));
        x.lower(0, BIND);
        x.lower(0, KILL);
        check.equal("26: KILL", 10, x.raise(0, KILL));
        check.equal("26: BIND", 11, x.raise(0, BIND));
        check.refused("26: not permitted", () -> x.raise(0, ATTACH));
        check.equal("26: the permitted set stays", 11 * 16 + 11, x.capabilitiesOf(0));
    }

    private static void lowerAnswers() {
        ContainerHost x = Hosts.withImage();
        x.run(0, 0, 14, 1);
        check.equal("27: ADMIN", 12, x.lower(0, ADMIN));
        check.equal("27: again", 12, x.lower(0, ADMIN));
        check.equal("27: not permitted", 12, x.lower(0, BIND));
        check.equal("27: KILL", 4, x.lower(0, KILL));
        check.equal("27: it stays permitted", 14 * 16 + 4, x.capabilitiesOf(0));
        check.equal("27: and is raised again", 6, x.raise(0, ADMIN));
    }

    private static void dropAnswers() {
        ContainerHost x = Hosts.withImage();
        x.run(0, 0, 15, 1);
        check.equal("28: ATTACH", 11, x.drop(0, ATTACH));
        check.equal("28: neither effective", 11 * 16 + 11, x.capabilitiesOf(0));
        check.refused("28: for good", () -> x.raise(0, ATTACH));
        check.equal("28: again", 11, x.drop(0, ATTACH));
        x.lower(0, BIND);
        check.equal("28: the permitted set", 3, x.drop(0, KILL));
        check.equal("28: both sets", 3 * 16 + 2, x.capabilitiesOf(0));
    }

    private static void refusals() {
        ContainerHost x = Hosts.withImage();
        x.run(0, 0, 15, 1);
        for (int number : WRONG_NUMBERS) {
            check.noSuch("26: container " + number, () -> x.raise(number, 0));
            check.noSuch("26: capability " + number, () -> x.raise(0, number));
            check.noSuch("27: container " + number, () -> x.lower(number, 0));
            check.noSuch("27: capability " + number, () -> x.lower(0, number));
            check.noSuch("28: container " + number, () -> x.drop(number, 0));
            check.noSuch("28: capability " + number, () -> x.drop(0, number));
        }
        x.pause(0);
        for (int round = 0; round < 2; round++) {
            check.noSuch("26: container 1", () -> x.raise(1, 0));
            check.noSuch("26: capability 4", () -> x.raise(0, 4));
            check.noSuch("27: container 1", () -> x.lower(1, 0));
            check.noSuch("27: capability 4", () -> x.lower(0, 4));
            check.noSuch("28: container 1", () -> x.drop(1, 0));
            check.noSuch("28: capability 4", () -> x.drop(0, 4));
            check.refused("26: not RUNNING", () -> x.raise(0, 0));
            check.refused("27: not RUNNING", () -> x.lower(0, 0));
            check.refused("28: not RUNNING", () -> x.drop(0, 0));
            if (round == 0) {
                x.stop(0);
            }
        }
        check.equal("26: unchanged", 255, x.capabilitiesOf(0));
    }

    private static void killStops() {
        ContainerHost x = Hosts.withImage();
        x.run(0, 0, 8, 1);
        x.run(0, 0, 15, 1);
        x.run(0, 0, 0, 1);
        x.allocate(1, 40);
        x.attach(1, 1);
        x.listen(1, 5);
        x.publish(1, 5, 5);
        check.equal("29: memory that becomes free", 40, x.kill(0, 1));
        check.equal("29: STOPPED", ContainerHost.STOPPED, x.stateOf(1));
        check.equal("29: no memory", 0, x.groupMemory(0));
        check.equal("29: no processes", 2, x.groupProcesses(0));
        check.equal("29: detached", ContainerHost.NONE, x.addressOf(1));
        check.equal("29: not published", ContainerHost.NONE, x.connectHost(5));
        x.pause(2);
        check.equal("29: a paused one", 0, x.kill(0, 2));
        check.equal("29: it stops too", ContainerHost.STOPPED, x.stateOf(2));
    }

    private static void killRefuses() {
        ContainerHost x = Hosts.withImage();
        x.run(0, 0, 8, 1);
        x.run(0, 0, 7, 1);
        x.run(0, 0, 0, 1);
        x.stop(2);
        for (int number : WRONG_NUMBERS) {
            check.noSuch("29: container " + number, () -> x.kill(number, 0));
            check.noSuch("29: victim " + number, () -> x.kill(0, number));
        }
        check.noSuch("29: container 3", () -> x.kill(3, 0));
        check.noSuch("29: victim 3", () -> x.kill(0, 3));
        check.noSuch("29: victim before state", () -> x.kill(2, 3));
        check.refused("29: itself", () -> x.kill(0, 0));
        check.refused("29: without KILL", () -> x.kill(1, 0));
        check.refused("29: a stopped victim", () -> x.kill(0, 2));
        check.refused("29: a stopped container", () -> x.kill(2, 0));
        x.lower(0, KILL);
        check.refused("29: KILL only permitted", () -> x.kill(0, 1));
        x.raise(0, KILL);
        x.pause(0);
        check.refused("29: a paused container", () -> x.kill(0, 1));
        check.equal("29: none was killed", 2, x.groupProcesses(0));
    }

    private static void killWithinGroups() {
        ContainerHost x = Hosts.withImage();
        x.newGroup(0, 100, 10, 1);
        x.newGroup(1, 100, 10, 1);
        x.newGroup(0, 100, 10, 1);
        x.run(0, 1, 8, 1);
        x.run(0, 0, 8, 1);
        x.run(0, 3, 8, 1);
        x.run(0, 2, 8, 1);
        x.run(0, 1, 8, 1);
        check.refused("29: a group above", () -> x.kill(0, 1));
        check.refused("29: a group beside", () -> x.kill(0, 2));
        check.equal("29: a group below", 0, x.kill(0, 3));
        check.equal("29: the same group", 0, x.kill(0, 4));
        check.equal("29: from the root", 0, x.kill(1, 2));
    }

    private static void everySetAndCapability() {
        for (int permitted = 0; permitted < 16; permitted++) {
            for (int capability = 0; capability < 4; capability++) {
                oneCapability(permitted, capability);
            }
        }
    }

    private static void oneCapability(int permitted, int capability) {
        String what = capability + " of " + permitted;
        int worth = new int[] {1, 2, 4, 8}[capability];
        boolean has = permitted / worth % 2 == 1;
        int without = has ? permitted - worth : permitted;
        ContainerHost x = Hosts.withImage();
        x.run(0, 0, permitted, 1);
        raised(what, x, capability, has, permitted);
        check.equal("27: " + what, without, x.lower(0, capability));
        check.equal("27: it stays permitted, " + what, 16 * permitted + without, x.capabilitiesOf(0));
        raised(what + " again", x, capability, has, permitted);
        check.equal("28: " + what, without, x.drop(0, capability));
        check.equal("28: neither, " + what, 16 * without + without, x.capabilitiesOf(0));
        raised(what + " after the drop", x, capability, false, without);
        check.equal("28: again, " + what, without, x.drop(0, capability));
    }

    private static void raised(String what, ContainerHost x, int capability, boolean may, int due) {
        if (may) {
            check.equal("26: " + what, due, x.raise(0, capability));
        } else {
            check.refused("26: " + what, () -> x.raise(0, capability));
        }
    }

    private static void killUpAndDownThePath() {
        ContainerHost x = Hosts.withImage();
        for (int group = 1; group < 8; group++) {
            x.newGroup(group - 1, 100, 10, 1);
        }
        for (int group = 0; group < 8; group++) {
            x.run(0, group, 8, 1);
        }
        for (int victim = 0; victim < 7; victim++) {
            int above = victim;
            check.refused("29: from the deepest group to " + above, () -> x.kill(7, above));
        }
        check.equal("29: none was killed", 8, x.groupProcesses(0));
        check.equal("29: from the root to the deepest group", 0, x.kill(0, 7));
        check.equal("29: one group below", 0, x.kill(5, 6));
        check.refused("29: it is STOPPED", () -> x.kill(5, 6));
        check.noSuch("29: neither exists", () -> x.kill(8, 8));
    }
}

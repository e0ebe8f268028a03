/** Promises 10 to 12: groups. */
public final class GroupsTest {
    private static final int[] WRONG_NUMBERS = {-1, Integer.MIN_VALUE, Integer.MAX_VALUE};
    private static final Check check = new Check("GroupsTest");

    public static void main(String[] args) {
        newGroupNumbers();
        newGroupRefuses();
        newGroupLimits();
        memoryOfGroups();
        processesOfGroups();
        emptyGroups();
        limitsBeyondThoseAbove();
        theRootsLimits();
        aPathOfEightGroups();
        check.finish();
    }

    private static void newGroupNumbers() {
        ContainerHost x = new ContainerHost();
        for (int i = 1; i < 8; i++) {
            check.equal("10: newGroup", i, x.newGroup(i - 1, 10000, 100, 100));
        }
        check.refused("10: a 9th group", () -> x.newGroup(0, 1, 1, 1));
        check.outOfRange("10: range before number", () -> x.newGroup(0, 0, 1, 1));
        check.noSuch("10: parent before range", () -> x.newGroup(8, 0, 1, 1));
    }

    private static void newGroupRefuses() {
        ContainerHost x = new ContainerHost();
        for (int number : WRONG_NUMBERS) {
            check.noSuch("10: parent " + number, () -> x.newGroup(number, 1, 1, 1));
            check.outOfRange("10: memory " + number, () -> x.newGroup(0, number, 1, 1));
            check.outOfRange("10: processes " + number, () -> x.newGroup(0, 1, number, 1));
            check.outOfRange("10: shares " + number, () -> x.newGroup(0, 1, 1, number));
        }
        check.noSuch("10: itself as parent", () -> x.newGroup(1, 1, 1, 1));
        check.outOfRange("10: memory 0", () -> x.newGroup(0, 0, 1, 1));
        check.outOfRange("10: memory 10001", () -> x.newGroup(0, 10001, 1, 1));
        check.outOfRange("10: processes 0", () -> x.newGroup(0, 1, 0, 1));
        check.outOfRange("10: processes 101", () -> x.newGroup(0, 1, 101, 1));
        check.outOfRange("10: shares 0", () -> x.newGroup(0, 1, 1, 0));
        check.outOfRange("10: shares 101", () -> x.newGroup(0, 1, 1, 101));
        check.equal("10: least values", 1, x.newGroup(0, 1, 1, 1));
    }

    private static void newGroupLimits() {
        ContainerHost x = Hosts.withImage();
        x.newGroup(0, 5, 2, 1);
        x.run(0, 1, 0, 1);
        x.run(0, 1, 0, 1);
        check.refused("10: processes at the limit", () -> x.run(0, 1, 0, 1));
        check.equal("10: memory at the limit", 5, x.allocate(0, 5));
        check.equal("10: memory over the limit", 1, x.allocate(1, 1));
        check.equal("10: the largest was killed", ContainerHost.STOPPED, x.stateOf(0));
    }

    private static void memoryOfGroups() {
        ContainerHost x = Hosts.withImage();
        x.newGroup(0, 1000, 10, 1);
        x.newGroup(1, 1000, 10, 1);
        x.newGroup(0, 1000, 10, 1);
        for (int group = 0; group < 4; group++) {
            x.run(0, group, 0, 1);
        }
        x.allocate(0, 1);
        x.allocate(1, 20);
        x.allocate(2, 300);
        x.allocate(3, 400);
        check.equal("11: root", 721, x.groupMemory(0));
        check.equal("11: with the group below", 320, x.groupMemory(1));
        check.equal("11: lowest", 300, x.groupMemory(2));
        check.equal("11: beside", 400, x.groupMemory(3));
        x.free(2, 100);
        x.stop(3);
        check.equal("11: root after free and stop", 221, x.groupMemory(0));
        check.equal("11: above after free", 220, x.groupMemory(1));
        check.equal("11: after stop", 0, x.groupMemory(3));
        for (int number : WRONG_NUMBERS) {
            check.noSuch("11: group " + number, () -> x.groupMemory(number));
        }
        check.noSuch("11: group 4", () -> x.groupMemory(4));
    }

    private static void processesOfGroups() {
        ContainerHost x = Hosts.withImage();
        x.newGroup(0, 1000, 10, 1);
        x.newGroup(1, 1000, 10, 1);
        for (int group = 0; group < 3; group++) {
            x.run(0, group, 0, 1);
        }
        x.fork(2);
        x.fork(2);
        x.pause(1);
        check.equal("12: root", 5, x.groupProcesses(0));
        check.equal("12: with the group below", 4, x.groupProcesses(1));
        check.equal("12: lowest", 3, x.groupProcesses(2));
        x.exit(2);
        x.stop(1);
        check.equal("12: root after exit and stop", 3, x.groupProcesses(0));
        check.equal("12: above after exit", 2, x.groupProcesses(1));
        x.stop(2);
        check.equal("12: all of a container at once", 1, x.groupProcesses(0));
        for (int number : WRONG_NUMBERS) {
            check.noSuch("12: group " + number, () -> x.groupProcesses(number));
        }
        check.noSuch("12: group 3", () -> x.groupProcesses(3));
    }

    private static void emptyGroups() {
        ContainerHost x = Hosts.withImage();
        x.newGroup(0, 1, 1, 1);
        check.equal("11: a new group", 0, x.groupMemory(1));
        check.equal("12: a new group", 0, x.groupProcesses(1));
        check.equal("13: its first process", 0, x.run(0, 1, 0, 1));
        check.equal("17: its first unit", 1, x.allocate(0, 1));
        check.equal("11: full", 1, x.groupMemory(1));
        check.equal("12: full", 1, x.groupProcesses(1));
        check.refused("13: no second process", () -> x.run(0, 1, 0, 1));
        x.exit(0);
        check.equal("11: empty again", 0, x.groupMemory(1));
        check.equal("12: empty again", 0, x.groupProcesses(1));
        check.equal("13: room for one again", 1, x.run(0, 1, 0, 1));
    }

    private static void limitsBeyondThoseAbove() {
        ContainerHost x = Hosts.withImage();
        x.newGroup(0, 10, 2, 1);
        check.equal("10: greater limits than its parent's", 2, x.newGroup(1, 10000, 100, 100));
        x.run(0, 2, 0, 1);
        check.equal("19: up to the parent's limit", 2, x.fork(0));
        check.refused("19: over the parent's limit", () -> x.fork(0));
        check.equal("17: up to the parent's limit", 10, x.allocate(0, 10));
        check.equal("17: over the parent's limit", ContainerHost.NONE, x.allocate(0, 1));
    }

    private static void theRootsLimits() {
        ContainerHost x = Hosts.withContainers(2);
        x.allocate(0, 5000);
        check.equal("1: memory up to 10000", 5000, x.allocate(1, 5000));
        check.equal("11: the root is full", 10000, x.groupMemory(0));
        for (int processes = 3; processes <= 100; processes++) {
            x.fork(0);
        }
        check.equal("12: processes up to 100", 100, x.groupProcesses(0));
        check.refused("1: no 101st process", () -> x.fork(1));
        check.refused("1: nor a container", () -> x.run(0, 0, 0, 1));
        check.equal("1: 10001 units are too many", ContainerHost.NONE, x.allocate(1, 1));
        check.equal("19: its process made room", 100, x.fork(0));
    }

    private static void aPathOfEightGroups() {
        ContainerHost x = Hosts.withImage();
        for (int group = 1; group < 8; group++) {
            x.newGroup(group - 1, 1000, 10, 1);
        }
        x.run(0, 7, 0, 1);
        x.run(0, 3, 0, 1);
        x.allocate(0, 100);
        x.allocate(1, 10);
        x.fork(0);
        for (int group = 0; group < 8; group++) {
            check.equal("11: group " + group, group <= 3 ? 110 : 100, x.groupMemory(group));
            check.equal("12: group " + group, group <= 3 ? 3 : 2, x.groupProcesses(group));
        }
        x.stop(0);
        for (int group = 0; group < 8; group++) {
            check.equal("11: after the stop, group " + group, group <= 3 ? 10 : 0, x.groupMemory(group));
            check.equal("12: after the stop, group " + group, group <= 3 ? 1 : 0, x.groupProcesses(group));
        }
        check.noSuch("11: no group 8", () -> x.groupMemory(8));
        check.noSuch("12: no group 8", () -> x.groupProcesses(8));
        check.noSuch("13: no group 8", () -> x.run(0, 8, 0, 1));
        check.noSuch("10: no parent 8", () -> x.newGroup(8, 1, 1, 1));
    }
}

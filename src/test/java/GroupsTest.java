/** Promises 10 to 12: groups. */
public final class GroupsTest {
    private static final int[] WRONG_NUMBERS = {-1, Integer.MIN_VALUE, Integer.MAX_VALUE};
    private static final Check check = new Check("GroupsTest");

    public static void main(String[] args) {
        newGroupNumbers();
        newGroupRefuses();
        newGroupLimits();
        memoryOfGroups();
        processesOfGroups();
        check.finish();
    }

    private static ContainerHost hostWithImage() {
        ContainerHost x = new ContainerHost();
        x.newImage(ContainerHost.NONE);
        x.seal(0);
        return x;
    }

    private static void newGroupNumbers() {
        ContainerHost x = new ContainerHost();
        for (int i = 1; i < 8; i++) {
            check.equal("10: newGroup", i, x.newGroup(i - 1, 10000, 100, 100));
        }
        check.refused("10: a 9th group", () -> x.newGroup(0, 1, 1, 1));
        check.outOfRange("10: range before number", () -> x.newGroup(0, 0, 1, 1));
        check.noSuch("10: parent before range", () -> x.newGroup(8, 0, 1, 1));
    }

    private static void newGroupRefuses() {
        ContainerHost x = new ContainerHost();
        for (int number : WRONG_NUMBERS) {
            check.noSuch("10: parent " + number, () -> x.newGroup(number, 1, 1, 1));
            check.outOfRange("10: memory " + number, () -> x.newGroup(0, number, 1, 1));
            check.outOfRange("10: processes " + number, () -> x.newGroup(0, 1, number, 1));
            check.outOfRange("10: shares " + number, () -> x.newGroup(0, 1, 1, number));
        }
        check.noSuch("10: itself as parent", () -> x.newGroup(1, 1, 1, 1));
        check.outOfRange("10: memory 0", () -> x.newGroup(0, 0, 1, 1));
        check.outOfRange("10: memory 10001", () -> x.newGroup(0, 10001, 1, 1));
        check.outOfRange("10: processes 0", () -> x.newGroup(0, 1, 0, 1));
        check.outOfRange("10: processes 101", () -> x.newGroup(0, 1, 101, 1));
        check.outOfRange("10: shares 0", () -> x.newGroup(0, 1, 1, 0));
        check.outOfRange("10: shares 101", () -> x.newGroup(0, 1, 1, 101));
        check.equal("10: least values", 1, x.newGroup(0, 1, 1, 1));
    }

    private static void newGroupLimits() {
        ContainerHost x = hostWithImage();
        x.newGroup(0, 5, 2, 1);
        x.run(0, 1, 0, 1);
        x.run(0, 1, 0, 1);
        check.refused("10: processes at the limit", () -> x.run(0, 1, 0, 1));
        check.equal("10: memory at the limit", 5, x.allocate(0, 5));
        check.equal("10: memory over the limit", 1, x.allocate(1, 1));
        check.equal("10: the largest was killed", ContainerHost.STOPPED, x.stateOf(0));
    }

    private static void memoryOfGroups() {
        ContainerHost x = hostWithImage();
        x.newGroup(0, 1000, 10, 1);
        x.newGroup(1, 1000, 10, 1);
        x.newGroup(0, 1000, 10, 1);
        for (int group = 0; group < 4; group++) {
            x.run(0, group, 0, 1);
        }
        x.allocate(0, 1);
        x.allocate(1, 20);
        x.allocate(2, 300);
        x.allocate(3, 400);
        check.equal("11: root", 721, x.groupMemory(0));
        check.equal("11: with the group below", 320, x.groupMemory(1));
        check.equal("11: lowest", 300, x.groupMemory(2));
        check.equal("11: beside", 400, x.groupMemory(3));
        x.free(2, 100);
        x.stop(3);
        check.equal("11: root after free and stop", 221, x.groupMemory(0));
        check.equal("11: above after free", 220, x.groupMemory(1));
        check.equal("11: after stop", 0, x.groupMemory(3));
        for (int number : WRONG_NUMBERS) {
            check.noSuch("11: group " + number, () -> x.groupMemory(number));
        }
        check.noSuch("11: group 4", () -> x.groupMemory(4));
    }

    private static void processesOfGroups() {
        ContainerHost x = hostWithImage();
        x.newGroup(0, 1000, 10, 1);
        x.newGroup(1, 1000, 10, 1);
        for (int group = 0; group < 3; group++) {
            x.run(0, group, 0, 1);
        }
        x.fork(2);
        x.fork(2);
        x.pause(1);
        check.equal("12: root", 5, x.groupProcesses(0));
        check.equal("12: with the group below", 4, x.groupProcesses(1));
        check.equal("12: lowest", 3, x.groupProcesses(2));
        x.exit(2);
        x.stop(1);
        check.equal("12: root after exit and stop", 3, x.groupProcesses(0));
        check.equal("12: above after exit", 2, x.groupProcesses(1));
        x.stop(2);
        check.equal("12: all of a container at once", 1, x.groupProcesses(0));
        for (int number : WRONG_NUMBERS) {
            check.noSuch("12: group " + number, () -> x.groupProcesses(number));
        }
        check.noSuch("12: group 3", () -> x.groupProcesses(3));
    }
}

/** Promises 13 to 20, and 38 to 43: containers, and what is told of them. */
public final class ContainersTest {
    private static final int NONE = ContainerHost.NONE;
    private static final int RUNNING = ContainerHost.RUNNING;
    private static final int PAUSED = ContainerHost.PAUSED;
    private static final int STOPPED = ContainerHost.STOPPED;
    private static final int[] WRONG_NUMBERS = {-1, 1, 20, Integer.MIN_VALUE, Integer.MAX_VALUE};
    private static final Check check = new Check("ContainersTest");

    public static void main(String[] args) {
        runMakes();
        runRefuses();
        runTwenty();
        runUpToProcessLimits();
        pauseAndResume();
        stopLeavesNothing();
        stopRefuses();
        allocateFits();
        allocateKillsTheLargest();
        allocateKillsOnlyInTheTightGroup();
        allocateLooksAtTheNearestGroupFirst();
        allocateKillsTheOneThatAsks();
        allocateKillsPausedAndEmpty();
        allocateRefuses();
        freeAnswers();
        forkAnswers();
        forkUpToLimits();
        fullMemoryHindersNoProcess();
        exitAnswers();
        wrongNumbersAreRefused();
        toldOfContainers();
        check.finish();
    }

    private static ContainerHost hostWithImage() {
        ContainerHost x = new ContainerHost();
        x.newImage(NONE);
        x.seal(0);
        return x;
    }

    private static void runMakes() {
        ContainerHost x = hostWithImage();
        check.equal("13: first", 0, x.run(0, 0, 0, 1));
        check.equal("13: second", 1, x.run(0, 0, 15, 100));
        check.equal("13: state", RUNNING, x.stateOf(0));
        check.equal("13: memory", 0, x.memoryOf(0));
        check.equal("13: time", 0, x.timeOf(0));
        check.equal("13: no capabilities", 0, x.capabilitiesOf(0));
        check.equal("13: all capabilities", 255, x.capabilitiesOf(1));
        check.equal("13: not attached", NONE, x.addressOf(1));
        check.equal("13: one process each", 2, x.groupProcesses(0));
        check.equal("13: one process at first", 2, x.fork(0));
        check.equal("13: listens on no port", 1, x.listen(1, 0));
        check.equal("13: 38: containers", 2, x.containers());
    }

    private static void runRefuses() {
        ContainerHost x = hostWithImage();
        x.newImage(NONE);
        check.noSuch("13: image -1", () -> x.run(-1, 0, 0, 1));
        check.noSuch("13: image 2", () -> x.run(2, 0, 0, 1));
        check.noSuch("13: group -1", () -> x.run(0, -1, 0, 1));
        check.noSuch("13: group 1", () -> x.run(0, 1, 0, 1));
        check.noSuch("13: least group", () -> x.run(0, Integer.MIN_VALUE, 0, 1));
        check.noSuch("13: greatest image", () -> x.run(Integer.MAX_VALUE, 0, 0, 1));
        check.noSuch("13: group before range", () -> x.run(0, 1, 16, 0));
        check.outOfRange("13: capabilities -1", () -> x.run(0, 0, -1, 1));
        check.outOfRange("13: capabilities 16", () -> x.run(0, 0, 16, 1));
        check.outOfRange("13: shares 0", () -> x.run(0, 0, 0, 0));
        check.outOfRange("13: shares 101", () -> x.run(0, 0, 0, 101));
        check.outOfRange("13: least shares", () -> x.run(0, 0, 0, Integer.MIN_VALUE));
        check.outOfRange("13: range before open", () -> x.run(1, 0, 16, 1));
        check.refused("13: open image", () -> x.run(1, 0, 0, 1));
        check.equal("13: refused calls make nothing", 0, x.containers() + x.groupProcesses(0));
    }

    private static void runTwenty() {
        ContainerHost x = hostWithImage();
        for (int i = 0; i < 20; i++) {
            check.equal("13: run", i, x.run(0, 0, 0, 1));
            x.stop(i);
        }
        check.equal("13: 20 containers, all stopped", 20, x.containers());
        check.refused("13: a 21st container", () -> x.run(0, 0, 0, 1));
        check.equal("13: the 20th is told of", STOPPED, x.stateOf(19));
    }

    private static void runUpToProcessLimits() {
        ContainerHost x = hostWithImage();
        x.newGroup(0, 100, 3, 1);
        x.newGroup(1, 100, 2, 1);
        x.run(0, 1, 0, 1);
        x.run(0, 2, 0, 1);
        x.run(0, 2, 0, 1);
        check.refused("13: the group's parent is full", () -> x.run(0, 2, 0, 1));
        x.stop(0);
        check.refused("13: the group itself is full", () -> x.run(0, 2, 0, 1));
        check.equal("13: the parent has room again", 3, x.run(0, 1, 0, 1));
        check.refused("13: and is full again", () -> x.run(0, 1, 0, 1));
        check.equal("13: the root has room", 4, x.run(0, 0, 0, 1));
        for (int processes = 2; processes < 98; processes++) {
            check.equal("19: fork", processes, x.fork(4));
        }
        check.equal("12: the root is full", 100, x.groupProcesses(0));
        check.refused("13: the root is full", () -> x.run(0, 0, 0, 1));
        check.refused("19: the root is full", () -> x.fork(4));
    }

    private static void pauseAndResume() {
        ContainerHost x = hostWithImage();
        x.run(0, 0, 15, 1);
        x.allocate(0, 10);
        check.refused("15: RUNNING", Check.of(() -> x.resume(0)));
        x.pause(0);
        check.equal("14: PAUSED", PAUSED, x.stateOf(0));
        check.equal("14: its memory stays", 10, x.memoryOf(0));
        check.refused("14: PAUSED already", Check.of(() -> x.pause(0)));
        x.resume(0);
        check.equal("15: RUNNING again", RUNNING, x.stateOf(0));
        check.equal("15: as before", 11, x.allocate(0, 1));
        x.stop(0);
        check.refused("14: STOPPED", Check.of(() -> x.pause(0)));
        check.refused("15: STOPPED", Check.of(() -> x.resume(0)));
        check.equal("15: it stays STOPPED", STOPPED, x.stateOf(0));
    }

    private static void stopLeavesNothing() {
        ContainerHost x = hostWithImage();
        x.run(0, 0, 15, 1);
        x.run(0, 0, 15, 1);
        x.allocate(0, 70);
        x.fork(0);
        x.writeFile(0, 8, 5);
        x.attach(0, 2);
        x.attach(1, 2);
        x.listen(0, 5);
        x.listen(1, 5);
        x.publish(0, 5, 9);
        x.publish(0, 5, 10);
        x.publish(1, 5, 11);
        x.schedule(10);
        check.equal("16: memory that becomes free", 70, x.stop(0));
        check.equal("16: STOPPED", STOPPED, x.stateOf(0));
        check.equal("16: memory", 0, x.memoryOf(0));
        check.equal("16: processes", 1, x.groupProcesses(0));
        check.equal("16: detached", NONE, x.addressOf(0));
        check.equal("16: its address is free", NONE, x.connect(1, 1, 5));
        check.equal("16: not published", NONE, x.connectHost(9));
        check.equal("16: no port is published", 2, x.publish(1, 5, 9));
        check.equal("16: other ports stay published", 1, x.connectHost(11));
        check.refused("16: listens on no port", () -> x.publish(0, 5, 12));
        check.equal("16: files stay", 5, x.fileOf(0, 8));
        check.equal("16: time stays", 5, x.timeOf(0));
        check.equal("16: capabilities stay", 255, x.capabilitiesOf(0));
    }

    private static void stopRefuses() {
        ContainerHost x = hostWithImage();
        x.run(0, 0, 0, 1);
        x.pause(0);
        check.equal("16: a paused one", 0, x.stop(0));
        check.refused("16: STOPPED", () -> x.stop(0));
    }

    private static void allocateFits() {
        ContainerHost x = hostWithImage();
        x.run(0, 0, 0, 1);
        x.run(0, 0, 0, 1);
        check.equal("17: one unit", 1, x.allocate(0, 1));
        check.equal("17: more", 4999, x.allocate(0, 4998));
        check.equal("17: most units", 5000, x.allocate(1, 5000));
        check.equal("17: up to the limit", 5000, x.allocate(0, 1));
        check.equal("17: none was killed", RUNNING, x.stateOf(1));
        check.equal("17: the root is full", 10000, x.groupMemory(0));
    }

    private static void allocateKillsTheLargest() {
        ContainerHost x = hostWithImage();
        x.newGroup(0, 100, 100, 1);
        for (int i = 0; i < 5; i++) {
            x.run(0, 1, 0, 1);
        }
        x.allocate(0, 30);
        x.allocate(1, 20);
        x.allocate(2, 30);
        x.allocate(3, 10);
        check.equal("17: two are killed", 60, x.allocate(4, 60));
        check.equal("17: the greater number first", STOPPED, x.stateOf(2));
        check.equal("17: then the lesser one", STOPPED, x.stateOf(0));
        check.equal("17: not a smaller one", RUNNING, x.stateOf(1));
        check.equal("17: not the smallest", RUNNING, x.stateOf(3));
        check.equal("17: memory of the group", 90, x.groupMemory(1));
        check.equal("17: processes of the group", 3, x.groupProcesses(1));
    }

    private static void allocateKillsOnlyInTheTightGroup() {
        ContainerHost x = hostWithImage();
        x.newGroup(0, 100, 100, 1);
        x.newGroup(1, 100, 100, 1);
        x.run(0, 0, 0, 1);
        x.run(0, 1, 0, 1);
        x.run(0, 2, 0, 1);
        x.allocate(0, 500);
        x.allocate(1, 40);
        x.allocate(2, 50);
        check.equal("17: the parent is tight", 51, x.allocate(1, 11));
        check.equal("17: the one below is killed", STOPPED, x.stateOf(2));
        check.equal("17: the one above is not", RUNNING, x.stateOf(0));
    }

    private static void allocateLooksAtTheNearestGroupFirst() {
        ContainerHost x = hostWithImage();
        x.newGroup(0, 100, 100, 1);
        x.newGroup(1, 50, 100, 1);
        x.run(0, 1, 0, 1);
        x.run(0, 2, 0, 1);
        x.run(0, 2, 0, 1);
        x.allocate(0, 60);
        x.allocate(1, 30);
        check.equal("17: both groups are tight", 45, x.allocate(2, 45));
        check.equal("17: the nearest kills first", STOPPED, x.stateOf(1));
        check.equal("17: then the parent kills", STOPPED, x.stateOf(0));
        check.equal("17: 45 are left", 45, x.groupMemory(0));

        ContainerHost y = hostWithImage();
        y.newGroup(0, 100, 100, 1);
        y.newGroup(1, 50, 100, 1);
        y.run(0, 1, 0, 1);
        y.run(0, 2, 0, 1);
        y.run(0, 2, 0, 1);
        y.allocate(0, 60);
        y.allocate(1, 30);
        check.equal("17: 40 fit after the first", 40, y.allocate(2, 40));
        check.equal("17: so the parent kills none", RUNNING, y.stateOf(0));
    }

    private static void allocateKillsTheOneThatAsks() {
        ContainerHost x = hostWithImage();
        x.newGroup(0, 100, 100, 1);
        x.run(0, 1, 0, 1);
        x.run(0, 1, 0, 1);
        x.allocate(0, 20);
        x.allocate(1, 30);
        check.equal("17: it has the most itself", NONE, x.allocate(1, 1000));
        check.equal("17: it is STOPPED", STOPPED, x.stateOf(1));
        check.equal("17: it has nothing", 0, x.memoryOf(1));
        check.equal("17: the other one goes on", RUNNING, x.stateOf(0));
        check.equal("17: with its memory", 20, x.groupMemory(1));

        ContainerHost y = hostWithImage();
        y.newGroup(0, 10, 100, 1);
        y.run(0, 1, 0, 1);
        check.equal("17: alone, one too many", NONE, y.allocate(0, 11));
        check.equal("17: no processes", 0, y.groupProcesses(0));
    }

    private static void allocateKillsPausedAndEmpty() {
        ContainerHost x = hostWithImage();
        x.newGroup(0, 100, 100, 1);
        x.run(0, 1, 0, 1);
        x.run(0, 1, 0, 1);
        x.run(0, 1, 0, 1);
        x.allocate(0, 60);
        x.pause(0);
        check.equal("17: the paused one is killed", 50, x.allocate(1, 50));
        check.equal("17: it is STOPPED", STOPPED, x.stateOf(0));
        x.stop(1);
        check.equal("17: all have none: the last one is killed", NONE, x.allocate(2, 101));

        ContainerHost y = hostWithImage();
        y.newGroup(0, 100, 100, 1);
        y.run(0, 1, 0, 1);
        y.run(0, 1, 0, 1);
        check.equal("17: an empty one is killed, then the one that asks", NONE, y.allocate(0, 101));
        check.equal("17: the empty one", STOPPED, y.stateOf(1));
    }

    private static void allocateRefuses() {
        ContainerHost x = hostWithImage();
        x.run(0, 0, 0, 1);
        check.outOfRange("17: units 0", () -> x.allocate(0, 0));
        check.outOfRange("17: units 5001", () -> x.allocate(0, 5001));
        check.outOfRange("17: least units", () -> x.allocate(0, Integer.MIN_VALUE));
        check.outOfRange("17: greatest units", () -> x.allocate(0, Integer.MAX_VALUE));
        check.noSuch("17: container before units", () -> x.allocate(1, 0));
        x.pause(0);
        check.refused("17: PAUSED", () -> x.allocate(0, 1));
        check.outOfRange("17: units before state", () -> x.allocate(0, 0));
        x.stop(0);
        check.refused("17: STOPPED", () -> x.allocate(0, 1));
        check.equal("17: nothing allocated", 0, x.groupMemory(0));
    }

    private static void freeAnswers() {
        ContainerHost x = hostWithImage();
        x.run(0, 0, 0, 1);
        x.allocate(0, 5000);
        x.allocate(0, 50);
        check.equal("18: free", 49, x.free(0, 5000) - 1);
        check.equal("18: of the group", 50, x.groupMemory(0));
        check.refused("18: less memory", () -> x.free(0, 51));
        check.outOfRange("18: units 0", () -> x.free(0, 0));
        check.outOfRange("18: units 5001", () -> x.free(0, 5001));
        check.outOfRange("18: units -1", () -> x.free(0, -1));
        check.noSuch("18: container before units", () -> x.free(1, 0));
        check.equal("18: all of it", 0, x.free(0, 50));
        x.allocate(0, 9);
        x.pause(0);
        check.refused("18: PAUSED", () -> x.free(0, 1));
        check.outOfRange("18: units before state", () -> x.free(0, 0));
        check.equal("18: it stays", 9, x.memoryOf(0));
        x.stop(0);
        check.refused("18: STOPPED", () -> x.free(0, 1));
    }

    private static void forkAnswers() {
        ContainerHost x = hostWithImage();
        x.run(0, 0, 0, 1);
        check.equal("19: second process", 2, x.fork(0));
        check.equal("19: third process", 3, x.fork(0));
        x.pause(0);
        check.refused("19: PAUSED", () -> x.fork(0));
        x.stop(0);
        check.refused("19: STOPPED", () -> x.fork(0));
        check.equal("19: nothing left", 0, x.groupProcesses(0));
    }

    private static void forkUpToLimits() {
        ContainerHost x = hostWithImage();
        x.newGroup(0, 100, 3, 1);
        x.newGroup(1, 100, 100, 1);
        x.run(0, 1, 0, 1);
        x.run(0, 2, 0, 1);
        check.equal("19: up to the limit", 2, x.fork(1));
        check.refused("19: a group above is full", () -> x.fork(1));
        check.refused("19: its own group is full", () -> x.fork(0));
        x.exit(1);
        check.equal("19: room again", 2, x.fork(0));
    }

    private static void fullMemoryHindersNoProcess() {
        ContainerHost x = hostWithImage();
        x.newGroup(0, 10, 100, 1);
        x.run(0, 1, 0, 1);
        x.allocate(0, 10);
        check.equal("19: fork with full memory", 2, x.fork(0));
        check.equal("13: run with full memory", 1, x.run(0, 1, 0, 1));
    }

    private static void exitAnswers() {
        ContainerHost x = hostWithImage();
        x.run(0, 0, 15, 1);
        x.fork(0);
        x.allocate(0, 10);
        x.attach(0, 0);
        x.listen(0, 7);
        x.publish(0, 7, 7);
        check.equal("20: one is left", 1, x.exit(0));
        check.equal("20: it goes on", RUNNING, x.stateOf(0));
        check.equal("20: its memory stays", 10, x.memoryOf(0));
        x.pause(0);
        check.refused("20: PAUSED", () -> x.exit(0));
        x.resume(0);
        check.equal("20: the last one", 0, x.exit(0));
        check.equal("20: it stops", STOPPED, x.stateOf(0));
        check.equal("20: its memory is free", 0, x.groupMemory(0));
        check.equal("20: it is detached", NONE, x.addressOf(0));
        check.equal("20: it is not published", NONE, x.connectHost(7));
        check.refused("20: STOPPED", () -> x.exit(0));
    }

    private static void wrongNumbersAreRefused() {
        ContainerHost x = hostWithImage();
        x.run(0, 0, 15, 1);
        for (int number : WRONG_NUMBERS) {
            check.noSuch("14: container " + number, Check.of(() -> x.pause(number)));
            check.noSuch("15: container " + number, Check.of(() -> x.resume(number)));
            check.noSuch("16: container " + number, () -> x.stop(number));
            check.noSuch("17: container " + number, () -> x.allocate(number, 1));
            check.noSuch("18: container " + number, () -> x.free(number, 1));
            check.noSuch("19: container " + number, () -> x.fork(number));
            check.noSuch("20: container " + number, () -> x.exit(number));
            check.noSuch("39: container " + number, () -> x.stateOf(number));
            check.noSuch("40: container " + number, () -> x.memoryOf(number));
            check.noSuch("41: container " + number, () -> x.timeOf(number));
            check.noSuch("42: container " + number, () -> x.capabilitiesOf(number));
            check.noSuch("43: container " + number, () -> x.addressOf(number));
        }
        check.equal("a call that throws changes nothing", RUNNING, x.stateOf(0));
    }

    private static void toldOfContainers() {
        ContainerHost x = hostWithImage();
        check.equal("38: none", 0, x.containers());
        x.run(0, 0, 6, 1);
        x.run(0, 0, 12, 3);
        check.equal("38: two", 2, x.containers());
        x.stop(0);
        check.equal("38: also stopped ones", 2, x.containers());
        check.equal("39: STOPPED", STOPPED, x.stateOf(0));
        check.equal("39: RUNNING", RUNNING, x.stateOf(1));
        x.allocate(1, 77);
        check.equal("40: memory", 77, x.memoryOf(1));
        check.equal("40: of a stopped one", 0, x.memoryOf(0));
        x.schedule(33);
        x.schedule(9);
        check.equal("41: time adds up", 42, x.timeOf(1));
        check.equal("41: of a stopped one", 0, x.timeOf(0));
        x.lower(1, ContainerHost.KILL);
        check.equal("42: capabilities", 12 * 16 + 4, x.capabilitiesOf(1));
        check.equal("42: of a stopped one", 6 * 16 + 6, x.capabilitiesOf(0));
        x.attach(1, 3);
        check.equal("43: address", 31, x.addressOf(1));
        check.equal("43: of a stopped one", NONE, x.addressOf(0));
        x.pause(1);
        check.equal("39: PAUSED", PAUSED, x.stateOf(1));
        check.equal("43: a paused one stays attached", 31, x.addressOf(1));
    }
}

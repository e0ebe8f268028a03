/** Promises 13 to 20, and 38 to 43: containers, and what is told of them. */
public final class ContainersTest {
    private static final int NONE = ContainerHost.NONE;
    private static final int RUNNING = ContainerHost.RUNNING;
    private static final int PAUSED = ContainerHost.PAUSED;
    private static final int STOPPED = ContainerHost.STOPPED;
    private static final int[] WRONG_NUMBERS = {-1, 1, 20, Integer.MIN_VALUE, Integer.MAX_VALUE};
    private static final Check check = new Check("ContainersTest");

    public static void main(String[] args) {
        runMakes();
        runRefuses();
        runTwenty();
        runUpToProcessLimits();
        pauseAndResume();
        stopLeavesNothing();
        stopRefuses();
        freeAnswers();
        forkAnswers();
        forkUpToLimits();
        fullMemoryHindersNoProcess();
        exitAnswers();
        wrongNumbersAreRefused();
        toldOfContainers();
        runWithLeastAndGreatest();
        aStoppedOneNeverRunsAgain();
        aPausedOneIsRefused();
        exitLeavesNothing();
        freeToTheLastUnit();
        allCallsOfOneObject();
        check.finish();
    }

    private static void runMakes() {
        ContainerHost x = Hosts.withImage();
        check.equal("13: first", 0, x.run(0, 0, 0, 1));
        check.equal("13: second", 1, x.run(0, 0, 15, 100));
        check.equal("13: state", RUNNING, x.stateOf(0));
        check.equal("13: memory", 0, x.memoryOf(0));
        check.equal("13: time", 0, x.timeOf(0));
        check.equal("13: no capabilities", 0, x.capabilitiesOf(0));
        check.equal("13: all capabilities", 255, x.capabilitiesOf(1));
        check.equal("13: not attached", NONE, x.addressOf(1));
        check.equal("13: one process each", 2, x.groupProcesses(0));
        check.equal("13: one process at first", 2, x.fork(0));
        check.equal("13: listens on no port", 1, x.listen(1, 0));
        check.equal("13: 38: containers", 2, x.containers());
    }

    private static void runRefuses() {
        ContainerHost x = Hosts.withImage();
        x.newImage(NONE);
        check.noSuch("13: image -1", () -> x.run(-1, 0, 0, 1));
        check.noSuch("13: image 2", () -> x.run(2, 0, 0, 1));
        check.noSuch("13: group -1", () -> x.run(0, -1, 0, 1));
        check.noSuch("13: group 1", () -> x.run(0, 1, 0, 1));
        check.noSuch("13: least group", () -> x.run(0, Integer.MIN_VALUE, 0, 1));
        check.noSuch("13: greatest image", () -> x.run(Integer.MAX_VALUE, 0, 0, 1));
        check.noSuch("13: group before range", () -> x.run(0, 1, 16, 0));
        check.outOfRange("13: capabilities -1", () -> x.run(0, 0, -1, 1));
        check.outOfRange("13: capabilities 16", () -> x.run(0, 0, 16, 1));
        check.outOfRange("13: shares 0", () -> x.run(0, 0, 0, 0));
        check.outOfRange("13: shares 101", () -> x.run(0, 0, 0, 101));
        check.outOfRange("13: least shares", () -> x.run(0, 0, 0, Integer.MIN_VALUE));
        check.outOfRange("13: range before open", () -> x.run(1, 0, 16, 1));
        check.refused("13: open image", () -> x.run(1, 0, 0, 1));
        check.equal("13: refused calls make nothing", 0, x.containers() + x.groupProcesses(0));
    }

    private static void runTwenty() {
        ContainerHost x = Hosts.withImage();
        for (int i = 0; i < 20; i++) {
            check.equal("13: run", i, x.run(0, 0, 0, 1));
            x.stop(i);
        }
        check.equal("13: 20 containers, all stopped", 20, x.containers());
        check.refused("13: a 21st container", () -> x.run(0, 0, 0, 1));
        check.equal("13: the 20th is told of", STOPPED, x.stateOf(19));
    }

    private static void runUpToProcessLimits() {
        ContainerHost x = Hosts.withImage();
        x.newGroup(0, 100, 3, 1);
        x.newGroup(1, 100, 2, 1);
        x.run(0, 1, 0, 1);
        x.run(0, 2, 0, 1);
        x.run(0, 2, 0, 1);
        check.refused("13: the group's parent is full", () -> x.run(0, 2, 0, 1));
        x.stop(0);
        check.refused("13: the group itself is full", () -> x.run(0, 2, 0, 1));
        check.equal("13: the parent has room again", 3, x.run(0, 1, 0, 1));
        check.refused("13: and is full again", () -> x.run(0, 1, 0, 1));
        check.equal("13: the root has room", 4, x.run(0, 0, 0, 1));
        for (int processes = 2; processes < 98; processes++) {
            check.equal("19: fork", processes, x.fork(4));
        }
        check.equal("12: the root is full", 100, x.groupProcesses(0));
        check.refused("13: the root is full", () -> x.run(0, 0, 0, 1));
        check.refused("19: the root is full", () -> x.fork(4));
    }

    private static void pauseAndResume() {
        ContainerHost x = Hosts.withImage();
        x.run(0, 0, 15, 1);
        x.allocate(0, 10);
        check.refused("15: RUNNING", Check.of(() -> x.resume(0)));
        x.pause(0);
        check.equal("14: PAUSED", PAUSED, x.stateOf(0));
        check.equal("14: its memory stays", 10, x.memoryOf(0));
        check.refused("14: PAUSED already", Check.of(() -> x.pause(0)));
        x.resume(0);
        check.equal("15: RUNNING again", RUNNING, x.stateOf(0));
        check.equal("15: as before", 11, x.allocate(0, 1));
        x.stop(0);
        check.refused("14: STOPPED", Check.of(() -> x.pause(0)));
        check.refused("15: STOPPED", Check.of(() -> x.resume(0)));
        check.equal("15: it stays STOPPED", STOPPED, x.stateOf(0));
    }

    private static void stopLeavesNothing() {
        ContainerHost x = Hosts.withImage();
        x.run(0, 0, 15, 1);
        x.run(0, 0, 15, 1);
        x.allocate(0, 70);
        x.fork(0);
        x.writeFile(0, 8, 5);
        x.attach(0, 2);
        x.attach(1, 2);
        x.listen(0, 5);
        x.listen(1, 5);
        x.publish(0, 5, 9);
        x.publish(0, 5, 10);
        x.publish(1, 5, 11);
        x.schedule(10);
        check.equal("16: memory that becomes free", 70, x.stop(0));
        check.equal("16: STOPPED", STOPPED, x.stateOf(0));
        check.equal("16: memory", 0, x.memoryOf(0));
        check.equal("16: processes", 1, x.groupProcesses(0));
        check.equal("16: detached", NONE, x.addressOf(0));
        check.equal("16: its address is free", NONE, x.connect(1, 1, 5));
        check.equal("16: not published", NONE, x.connectHost(9));
        check.equal("16: no port is published", 2, x.publish(1, 5, 9));
        check.equal("16: other ports stay published", 1, x.connectHost(11));
        check.refused("16: listens on no port", () -> x.publish(0, 5, 12));
        check.equal("16: files stay", 5, x.fileOf(0, 8));
        check.equal("16: time stays", 5, x.timeOf(0));
        check.equal("16: capabilities stay", 255, x.capabilitiesOf(0));
    }

    private static void stopRefuses() {
        ContainerHost x = Hosts.withImage();
        x.run(0, 0, 0, 1);
        x.pause(0);
        check.equal("16: a paused one", 0, x.stop(0));
        check.refused("16: STOPPED", () -> x.stop(0));
    }

    private static void freeAnswers() {
        ContainerHost x = Hosts.withImage();
        x.run(0, 0, 0, 1);
        x.allocate(0, 5000);
        x.allocate(0, 50);
        check.equal("18: free", 50, x.free(0, 5000));
        check.equal("18: of the group", 50, x.groupMemory(0));
        check.refused("18: less memory", () -> x.free(0, 51));
        check.outOfRange("18: units 0", () -> x.free(0, 0));
        check.outOfRange("18: units 5001", () -> x.free(0, 5001));
        check.outOfRange("18: units -1", () -> x.free(0, -1));
        check.noSuch("18: container before units", () -> x.free(1, 0));
        check.equal("18: all of it", 0, x.free(0, 50));
        x.allocate(0, 9);
        x.pause(0);
        check.refused("18: PAUSED", () -> x.free(0, 1));
        check.outOfRange("18: units before state", () -> x.free(0, 0));
        check.equal("18: it stays", 9, x.memoryOf(0));
        x.stop(0);
        check.refused("18: STOPPED", () -> x.free(0, 1));
    }

    private static void forkAnswers() {
        ContainerHost x = Hosts.withImage();
        x.run(0, 0, 0, 1);
        check.equal("19: second process", 2, x.fork(0));
        check.equal("19: third process", 3, x.fork(0));
        x.pause(0);
        check.refused("19: PAUSED", () -> x.fork(0));
        x.stop(0);
        check.refused("19: STOPPED", () -> x.fork(0));
        check.equal("19: nothing left", 0, x.groupProcesses(0));
    }

    private static void forkUpToLimits() {
        ContainerHost x = Hosts.withImage();
        x.newGroup(0, 100, 3, 1);
        x.newGroup(1, 100, 100, 1);
        x.run(0, 1, 0, 1);
        x.run(0, 2, 0, 1);
        check.equal("19: up to the limit", 2, x.fork(1));
        check.refused("19: a group above is full", () -> x.fork(1));
        check.refused("19: its own group is full", () -> x.fork(0));
        x.exit(1);
        check.equal("19: room again", 2, x.fork(0));
    }

    private static void fullMemoryHindersNoProcess() {
        ContainerHost x = Hosts.withImage();
        x.newGroup(0, 10, 100, 1);
        x.run(0, 1, 0, 1);
        x.allocate(0, 10);
        check.equal("19: fork with full memory", 2, x.fork(0));
        check.equal("13: run with full memory", 1, x.run(0, 1, 0, 1));
    }

    private static void exitAnswers() {
        ContainerHost x = Hosts.withImage();
        x.run(0, 0, 15, 1);
        x.fork(0);
        x.allocate(0, 10);
        x.attach(0, 0);
        x.listen(0, 7);
        x.publish(0, 7, 7);
        check.equal("20: one is left", 1, x.exit(0));
        check.equal("20: it goes on", RUNNING, x.stateOf(0));
        check.equal("20: its memory stays", 10, x.memoryOf(0));
        x.pause(0);
        check.refused("20: PAUSED", () -> x.exit(0));
        x.resume(0);
        check.equal("20: the last one", 0, x.exit(0));
        check.equal("20: it stops", STOPPED, x.stateOf(0));
        check.equal("20: its memory is free", 0, x.groupMemory(0));
        check.equal("20: it is detached", NONE, x.addressOf(0));
        check.equal("20: it is not published", NONE, x.connectHost(7));
        check.refused("20: STOPPED", () -> x.exit(0));
    }

    private static void wrongNumbersAreRefused() {
        ContainerHost x = Hosts.withImage();
        x.run(0, 0, 15, 1);
        for (int number : WRONG_NUMBERS) {
            check.noSuch("14: container " + number, Check.of(() -> x.pause(number)));
            check.noSuch("15: container " + number, Check.of(() -> x.resume(number)));
            check.noSuch("16: container " + number, () -> x.stop(number));
            check.noSuch("17: container " + number, () -> x.allocate(number, 1));
            check.noSuch("18: container " + number, () -> x.free(number, 1));
            check.noSuch("19: container " + number, () -> x.fork(number));
            check.noSuch("20: container " + number, () -> x.exit(number));
            check.noSuch("39: container " + number, () -> x.stateOf(number));
            check.noSuch("40: container " + number, () -> x.memoryOf(number));
            check.noSuch("41: container " + number, () -> x.timeOf(number));
            check.noSuch("42: container " + number, () -> x.capabilitiesOf(number));
            check.noSuch("43: container " + number, () -> x.addressOf(number));
        }
        check.equal("a call that throws changes nothing", RUNNING, x.stateOf(0));
    }

    private static void toldOfContainers() {
        ContainerHost x = Hosts.withImage();
        check.equal("38: none", 0, x.containers());
        x.run(0, 0, 6, 1);
        x.run(0, 0, 12, 3);
        check.equal("38: two", 2, x.containers());
        x.stop(0);
        check.equal("38: also stopped ones", 2, x.containers());
        check.equal("39: STOPPED", STOPPED, x.stateOf(0));
        check.equal("39: RUNNING", RUNNING, x.stateOf(1));
        x.allocate(1, 77);
        check.equal("40: memory", 77, x.memoryOf(1));
        check.equal("40: of a stopped one", 0, x.memoryOf(0));
        x.schedule(33);
        x.schedule(9);
        check.equal("41: time adds up", 42, x.timeOf(1));
        check.equal("41: of a stopped one", 0, x.timeOf(0));
        x.lower(1, ContainerHost.KILL);
        check.equal("42: capabilities", 12 * 16 + 4, x.capabilitiesOf(1));
        check.equal("42: of a stopped one", 6 * 16 + 6, x.capabilitiesOf(0));
        x.attach(1, 3);
        check.equal("43: address", 31, x.addressOf(1));
        check.equal("43: of a stopped one", NONE, x.addressOf(0));
        x.pause(1);
        check.equal("39: PAUSED", PAUSED, x.stateOf(1));
        check.equal("43: a paused one stays attached", 31, x.addressOf(1));
    }

    private static void runWithLeastAndGreatest() {
        ContainerHost x = Hosts.withEightLayers();
        check.equal("13: least of all", 0, x.run(0, 0, 0, 1));
        check.equal("13: greatest of all", 1, x.run(7, 0, 15, 100));
        for (int set = 1; set < 15; set++) {
            check.equal("13: run", set + 1, x.run(0, 0, set, 1));
            check.equal("42: both sets of " + set, set * 17, x.capabilitiesOf(set + 1));
        }
        check.equal("42: no capability", 0, x.capabilitiesOf(0));
        check.equal("42: all capabilities", 255, x.capabilitiesOf(1));
        x.schedule(115);
        check.equal("13: one share", 1, x.timeOf(0));
        check.equal("13: a hundred shares", 100, x.timeOf(1));
    }

    private static void aStoppedOneNeverRunsAgain() {
        ContainerHost x = Hosts.withContainers(2);
        x.attach(0, 0);
        x.listen(0, 5);
        x.stop(0);
        refusedUnlessRunning("STOPPED", x);
        check.refused("15: STOPPED", Check.of(() -> x.resume(0)));
        check.refused("16: STOPPED", () -> x.stop(0));
        check.refused("29: a STOPPED victim", () -> x.kill(1, 0));
        check.refused("33: STOPPED", () -> x.publish(0, 5, 5));
        check.refused("36: STOPPED", () -> x.save(0));
        check.equal("39: it stays STOPPED", STOPPED, x.stateOf(0));
        check.equal("21: it gets no time", 10, x.schedule(10) + x.timeOf(0));
        check.equal("41: the other one gets it", 10, x.timeOf(1));
    }

    private static void aPausedOneIsRefused() {
        ContainerHost x = Hosts.withContainers(2);
        x.attach(0, 0);
        x.allocate(0, 5);
        x.writeFile(0, 4, 4);
        x.pause(0);
        refusedUnlessRunning("PAUSED", x);
        check.equal("40: its memory stays", 5, x.memoryOf(0));
        check.equal("42: its capabilities stay", 255, x.capabilitiesOf(0));
        check.equal("43: it stays attached", 1, x.addressOf(0));
        check.equal("24: its file stays", 4, x.fileOf(0, 4));
        check.equal("12: its process stays", 2, x.groupProcesses(0));
    }

    /** The calls that want the container 0 to be RUNNING. */
    private static void refusedUnlessRunning(String state, ContainerHost x) {
        check.refused("14: " + state, Check.of(() -> x.pause(0)));
        check.refused("17: " + state, () -> x.allocate(0, 1));
        check.refused("18: " + state, () -> x.free(0, 1));
        check.refused("19: " + state, () -> x.fork(0));
        check.refused("20: " + state, () -> x.exit(0));
        check.refused("22: " + state, () -> x.writeFile(0, 4, 1));
        check.refused("23: " + state, () -> x.removeFile(0, 4));
        for (int capability = 0; capability < 4; capability++) {
            int asked = capability;
            check.refused("26: " + state, () -> x.raise(0, asked));
            check.refused("27: " + state, () -> x.lower(0, asked));
            check.refused("28: " + state, () -> x.drop(0, asked));
        }
        check.refused("29: " + state, () -> x.kill(0, 1));
        check.refused("30: " + state, () -> x.attach(0, 1));
        check.refused("31: " + state, () -> x.detach(0));
        check.refused("32: " + state, () -> x.listen(0, 6));
        check.refused("34: " + state, () -> x.connect(0, 1, 5));
    }

    private static void exitLeavesNothing() {
        ContainerHost x = Hosts.withContainers(2);
        x.allocate(0, 40);
        x.writeFile(0, 8, 80);
        x.attach(0, 3);
        x.listen(0, 5);
        x.listen(1, 5);
        x.publish(0, 5, 1);
        check.equal("20: its only process", 0, x.exit(0));
        check.equal("40: no memory", 0, x.memoryOf(0));
        check.equal("12: no process", 1, x.groupProcesses(0));
        check.equal("30: its address is free", 1, x.attach(1, 3));
        check.equal("33: its port is not published", 1, x.publish(1, 5, 1));
        check.refused("33: it listens on no port", () -> x.publish(0, 5, 2));
        check.equal("24: its files stay", 80, x.fileOf(0, 8));
        check.equal("42: its capabilities stay", 255, x.capabilitiesOf(0));
        check.equal("38: it is still counted", 2, x.containers());
    }

    private static void freeToTheLastUnit() {
        ContainerHost x = Hosts.withContainers(1);
        check.refused("18: nothing to free", () -> x.free(0, 1));
        check.outOfRange("18: least units", () -> x.free(0, Integer.MIN_VALUE));
        check.outOfRange("18: greatest units", () -> x.free(0, Integer.MAX_VALUE));
        x.allocate(0, 5000);
        check.equal("18: one unit", 4999, x.free(0, 1));
        check.refused("18: one unit too many", () -> x.free(0, 5000));
        check.equal("18: the last one", 0, x.free(0, 4999));
        check.equal("18: it goes on", RUNNING, x.stateOf(0));
        check.equal("11: of the root", 0, x.groupMemory(0));
    }

    /** The 512th call is the last one that is promised. */
    private static void allCallsOfOneObject() {
        ContainerHost x = Hosts.withContainers(1);
        for (int call = 4; call < 512; call++) {
            check.equal("21: call " + call, 10000, x.schedule(10000));
        }
        check.equal("41: the 512th call", 508 * 10000, x.timeOf(0));

        ContainerHost y = Hosts.withContainers(1);
        for (int call = 4; call < 512; call++) {
            check.outOfRange("21: call " + call, () -> y.schedule(0));
        }
        check.equal("41: after calls that throw", 0, y.timeOf(0));
    }
}

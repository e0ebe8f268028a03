/** Promises 36 and 37: checkpoints. */
public final class CheckpointsTest {
    private static final int NONE = ContainerHost.NONE;
    private static final int[] WRONG_NUMBERS = {-1, Integer.MIN_VALUE, Integer.MAX_VALUE};
    private static final Check check = new Check("CheckpointsTest");

    public static void main(String[] args) {
        saveNumbers();
        saveRefuses();
        restoresAsSaved();
        restoresACopy();
        restoreRefuses();
        restoreUpToLimits();
        restoreTwenty();
        restoreUpToTheRootsMemory();
        restoreUpToTheRootsProcesses();
        restoreWhenAllIsFull();
        saveBeforeAnything();
        restoresPortsAndSetsAsTheyWere();
        restoresOnEightLayers();
        check.finish();
    }

    private static ContainerHost hostWithImage() {
        ContainerHost x = new ContainerHost();
        x.newImage(NONE);
        x.write(0, 4, 40);
        x.seal(0);
        return x;
    }

    private static void saveNumbers() {
        ContainerHost x = hostWithImage();
        x.run(0, 0, 0, 1);
        x.pause(0);
        for (int i = 0; i < 5; i++) {
            check.equal("36: save", i, x.save(0));
        }
        check.refused("36: a 6th checkpoint", () -> x.save(0));
        check.equal("36: it stays PAUSED", ContainerHost.PAUSED, x.stateOf(0));
    }

    private static void saveRefuses() {
        ContainerHost x = hostWithImage();
        for (int number : WRONG_NUMBERS) {
            check.noSuch("36: container " + number, () -> x.save(number));
        }
        check.noSuch("36: container 0", () -> x.save(0));
        x.run(0, 0, 0, 1);
        check.refused("36: RUNNING", () -> x.save(0));
        x.pause(0);
        check.equal("36: PAUSED", 0, x.save(0));
        x.stop(0);
        check.refused("36: STOPPED", () -> x.save(0));
        check.noSuch("36: no second checkpoint", () -> x.restore(1, 0));
    }

    private static void restoresAsSaved() {
        ContainerHost x = hostWithImage();
        x.newGroup(0, 1000, 50, 1);
        x.run(0, 0, 15, 7);
        x.run(0, 0, 15, 7);
        x.writeFile(0, 5, 50);
        x.removeFile(0, 4);
        x.allocate(0, 200);
        x.fork(0);
        x.fork(0);
        x.lower(0, ContainerHost.ADMIN);
        x.drop(0, ContainerHost.BIND);
        x.attach(0, 1);
        x.listen(0, 9);
        x.listen(0, 10);
        x.publish(0, 9, 3);
        x.schedule(20);
        x.pause(0);
        x.save(0);
        x.stop(0);
        check.equal("37: restore", 2, x.restore(0, 1));
        check.equal("37: RUNNING", ContainerHost.RUNNING, x.stateOf(2));
        check.equal("37: memory", 200, x.memoryOf(2));
        check.equal("37: memory of the group", 200, x.groupMemory(1));
        check.equal("37: processes of the group", 3, x.groupProcesses(1));
        check.equal("37: and of the root", 4, x.groupProcesses(0));
        check.equal("37: capabilities", 14 * 16 + 12, x.capabilitiesOf(2));
        check.equal("37: its own content", 50, x.fileOf(2, 5));
        check.equal("37: its own whiteout", 0, x.fileOf(2, 4));
        check.equal("37: no time", 0, x.timeOf(2));
        check.equal("37: not attached", NONE, x.addressOf(2));
        check.equal("37: not published", NONE, x.connectHost(3));
        check.equal("37: it listens", 1, x.publish(2, 9, 4));
        check.equal("37: on both ports", 3, x.listen(2, 11));
        check.equal("37: processes", 4, x.fork(2));
        check.equal("37: the first one stays STOPPED", ContainerHost.STOPPED, x.stateOf(0));
        x.stop(1);
        x.run(0, 1, 0, 14);
        x.schedule(30);
        check.equal("37: its shares", 10, x.timeOf(2));
    }

    private static void restoresACopy() {
        ContainerHost x = hostWithImage();
        x.run(0, 0, 15, 1);
        x.writeFile(0, 5, 50);
        x.listen(0, 8);
        x.pause(0);
        x.save(0);
        x.resume(0);
        x.writeFile(0, 5, 51);
        x.listen(0, 9);
        x.allocate(0, 10);
        x.fork(0);
        x.drop(0, ContainerHost.KILL);
        check.equal("37: first", 1, x.restore(0, 0));
        check.equal("37: as when it was saved", 50, x.fileOf(1, 5));
        check.equal("37: memory as then", 0, x.memoryOf(1));
        check.equal("37: capabilities as then", 255, x.capabilitiesOf(1));
        check.equal("37: ports as then", 2, x.listen(1, 9));
        check.equal("37: processes as then", 2, x.fork(1));
        x.writeFile(1, 5, 52);
        check.equal("37: second", 2, x.restore(0, 0));
        check.equal("37: each has a layer of its own", 50, x.fileOf(2, 5));
        check.equal("37: the saved one has its own too", 51, x.fileOf(0, 5));
        x.commit(1);
        check.equal("37: the image is that of the saved one", 40, x.shown(1, 4));
        check.noSuch("37: with two layers when committed", () -> x.entries(1, 2));
    }

    private static void restoreRefuses() {
        ContainerHost x = hostWithImage();
        x.run(0, 0, 0, 1);
        x.pause(0);
        x.save(0);
        for (int number : WRONG_NUMBERS) {
            check.noSuch("37: checkpoint " + number, () -> x.restore(number, 0));
            check.noSuch("37: group " + number, () -> x.restore(0, number));
        }
        check.noSuch("37: checkpoint 1", () -> x.restore(1, 0));
        check.noSuch("37: group 1", () -> x.restore(0, 1));
        check.equal("37: refused calls make nothing", 1, x.containers());
    }

    private static void restoreUpToLimits() {
        ContainerHost x = hostWithImage();
        x.newGroup(0, 100, 10, 1);
        x.newGroup(1, 60, 4, 1);
        x.run(0, 0, 0, 1);
        x.allocate(0, 50);
        x.fork(0);
        x.fork(0);
        x.pause(0);
        x.save(0);
        check.equal("37: it fits", 1, x.restore(0, 2));
        check.refused("37: the group has no memory", () -> x.restore(0, 2));
        check.equal("37: up to the parent's memory", 2, x.restore(0, 1));
        check.refused("37: the parent has no memory", () -> x.restore(0, 1));
        x.stop(1);
        x.free(2, 50);
        x.fork(2);
        x.run(0, 2, 0, 1);
        check.equal("37: up to the group's processes", 4, x.restore(0, 2));
        x.free(4, 50);
        check.refused("37: the group has no processes", () -> x.restore(0, 2));
        check.refused("37: the parent has no processes", () -> x.restore(0, 1));
        check.equal("37: nobody is killed for it", 8, x.groupProcesses(1));
        check.equal("37: nothing is charged", 0, x.groupMemory(1));
        check.equal("37: nothing is made", 5, x.containers());
    }

    private static void restoreTwenty() {
        ContainerHost x = hostWithImage();
        x.run(0, 0, 0, 1);
        x.pause(0);
        x.save(0);
        for (int i = 1; i < 20; i++) {
            check.equal("37: restore", i, x.restore(0, 0));
        }
        check.refused("37: a 21st container", () -> x.restore(0, 0));
        check.equal("37: 20 processes", 20, x.groupProcesses(0));
    }

    private static void restoreUpToTheRootsMemory() {
        ContainerHost x = Hosts.withContainers(1);
        x.allocate(0, 5000);
        x.pause(0);
        x.save(0);
        check.equal("37: 10000 units", 1, x.restore(0, 0));
        check.equal("11: the root is full", 10000, x.groupMemory(0));
        check.refused("37: no more memory", () -> x.restore(0, 0));
        x.free(1, 4999);
        check.refused("37: one unit too many", () -> x.restore(0, 0));
        x.free(1, 1);
        check.equal("37: it fits again", 2, x.restore(0, 0));
        check.equal("37: nobody was killed", ContainerHost.RUNNING, x.stateOf(1));
    }

    private static void restoreUpToTheRootsProcesses() {
        ContainerHost x = Hosts.withContainers(1);
        for (int processes = 2; processes <= 50; processes++) {
            x.fork(0);
        }
        x.pause(0);
        x.save(0);
        check.equal("37: 100 processes", 1, x.restore(0, 0));
        check.equal("12: the root is full", 100, x.groupProcesses(0));
        check.refused("37: no more processes", () -> x.restore(0, 0));
        for (int processes = 50; processes > 1; processes--) {
            x.exit(1);
        }
        check.refused("37: one process too many", () -> x.restore(0, 0));
        x.exit(1);
        check.equal("37: it fits again", 2, x.restore(0, 0));
    }

    private static void restoreWhenAllIsFull() {
        ContainerHost x = Hosts.withContainers(20);
        x.pause(19);
        x.save(19);
        check.refused("37: 20 containers", () -> x.restore(0, 0));
        check.noSuch("37: checkpoint before containers", () -> x.restore(1, 0));
        check.noSuch("37: group before containers", () -> x.restore(0, 1));
        x.stop(0);
        check.refused("37: 20 containers, one STOPPED", () -> x.restore(0, 0));
        check.equal("38: 20 containers", 20, x.containers());
        check.noSuch("39: no container 20", () -> x.stateOf(20));
    }

    private static void saveBeforeAnything() {
        ContainerHost x = Hosts.withImage();
        x.newGroup(0, 1, 1, 1);
        x.run(0, 1, 0, 1);
        x.pause(0);
        check.equal("36: the first one", 0, x.save(0));
        check.equal("36: the same again", 1, x.save(0));
        check.refused("37: the group is full", () -> x.restore(1, 1));
        x.stop(0);
        check.equal("37: it has room again", 1, x.restore(1, 1));
        check.equal("40: no memory", 0, x.memoryOf(1));
        check.equal("12: one process", 1, x.groupProcesses(1));
        check.equal("42: no capabilities", 0, x.capabilitiesOf(1));
        check.equal("32: no ports", 1, x.listen(1, 4));
        check.equal("20: its only process", 0, x.exit(1));
        check.equal("37: once more", 2, x.restore(0, 1));
        check.noSuch("37: no checkpoint 2", () -> x.restore(2, 1));
        check.noSuch("37: no checkpoint -1", () -> x.restore(-1, 1));
    }

    private static void restoresPortsAndSetsAsTheyWere() {
        ContainerHost x = Hosts.withContainers(2);
        for (int port = 0; port < 16; port++) {
            x.listen(0, port);
        }
        x.lower(0, ContainerHost.BIND);
        x.drop(0, ContainerHost.KILL);
        x.attach(0, 0);
        x.attach(1, 0);
        x.pause(0);
        x.save(0);
        check.equal("37: beside the saved one", 2, x.restore(0, 0));
        check.equal("42: as it was saved", 16 * 7 + 6, x.capabilitiesOf(2));
        check.equal("43: not attached", NONE, x.addressOf(2));
        check.equal("30: an address of its own", 3, x.attach(2, 0));
        for (int number = 0; number < 16; number++) {
            int port = number;
            check.equal("34: it listens on " + port, 2, x.connect(1, 3, port));
            check.refused("32: it listens on " + port, () -> x.listen(2, port));
        }
        check.equal("33: a port below 4", 1, x.publish(2, 3, 0));
    }

    private static void restoresOnEightLayers() {
        ContainerHost x = Hosts.withEightLayers();
        x.run(7, 0, 15, 1);
        x.writeFile(0, 0, 500);
        x.removeFile(0, 1);
        x.pause(0);
        x.save(0);
        x.stop(0);
        check.equal("37: of a STOPPED one", 1, x.restore(0, 0));
        check.equal("37: its own content", 500, x.plainFileOf(1, 0));
        check.equal("37: its own whiteout", 0, x.plainFileOf(1, 1));
        check.equal("37: its image", 3, x.fileOf(1, 2));
        check.equal("37: the top of its image", 8, x.fileOf(1, 31));
        check.refused("9: its image has 8 layers", () -> x.commit(1));
    }
}

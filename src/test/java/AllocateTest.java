/** Promise 17: allocate. */
public final class AllocateTest {
    private static final int NONE = ContainerHost.NONE;
    private static final int RUNNING = ContainerHost.RUNNING;
    private static final int STOPPED = ContainerHost.STOPPED;
    private static final Check check = new Check("AllocateTest");

    public static void main(String[] args) {
        allocateFits();
        allocateKillsTheLargest();
        allocateKillsOnlyInTheTightGroup();
        allocateLooksAtTheNearestGroupFirst();
        allocateKillsTheOneThatAsks();
        allocateKillsPausedAndEmpty();
        allocateRefuses();
        oneUnitOverTheRootKills();
        fitsExactlyAfterAKill();
        ofEqualOnesTheGreatestNumber();
        whatIsAskedForDoesNotCount();
        stoppedOnesAreNotLookedAt();
        killsBelowTheTightGroup();
        killedOnesKeepNothing();
        theOneThatAskedKeepsNothing();
        throughEightGroups();
        check.finish();
    }

    private static void allocateFits() {
        ContainerHost x = Hosts.withImage();
        x.run(0, 0, 0, 1);
        x.run(0, 0, 0, 1);
        check.equal("17: one unit", 1, x.allocate(0, 1));
        check.equal("17: more", 4999, x.allocate(0, 4998));
        check.equal("17: most units", 5000, x.allocate(1, 5000));
        check.equal("17: up to the limit", 5000, x.allocate(0, 1));
        check.equal("17: none was killed", RUNNING, x.stateOf(1));
        check.equal("17: the root is full", 10000, x.groupMemory(0));
    }

    private static void allocateKillsTheLargest() {
        ContainerHost x = Hosts.withImage();
        x.newGroup(0, 100, 100, 1);
        for (int i = 0; i < 5; i++) {
            x.run(0, 1, 0, 1);
        }
        x.allocate(0, 30);
        x.allocate(1, 20);
        x.allocate(2, 30);
        x.allocate(3, 10);
        check.equal("17: two are killed", 60, x.allocate(4, 60));
        check.equal("17: the greater number first", STOPPED, x.stateOf(2));
        check.equal("17: then the lesser one", STOPPED, x.stateOf(0));
        check.equal("17: not a smaller one", RUNNING, x.stateOf(1));
        check.equal("17: not the smallest", RUNNING, x.stateOf(3));
        check.equal("17: memory of the group", 90, x.groupMemory(1));
        check.equal("17: processes of the group", 3, x.groupProcesses(1));
    }

    private static void allocateKillsOnlyInTheTightGroup() {
        ContainerHost x = Hosts.withImage();
        x.newGroup(0, 100, 100, 1);
        x.newGroup(1, 100, 100, 1);
        x.run(0, 0, 0, 1);
        x.run(0, 1, 0, 1);
        x.run(0, 2, 0, 1);
        x.allocate(0, 500);
        x.allocate(1, 40);
        x.allocate(2, 50);
        check.equal("17: the parent is tight", 51, x.allocate(1, 11));
        check.equal("17: the one below is killed", STOPPED, x.stateOf(2));
        check.equal("17: the one above is not", RUNNING, x.stateOf(0));
    }

    private static void allocateLooksAtTheNearestGroupFirst() {
        ContainerHost x = Hosts.withImage();
        x.newGroup(0, 100, 100, 1);
        x.newGroup(1, 50, 100, 1);
        x.run(0, 1, 0, 1);
        x.run(0, 2, 0, 1);
        x.run(0, 2, 0, 1);
        x.allocate(0, 60);
        x.allocate(1, 30);
        check.equal("17: both groups are tight", 45, x.allocate(2, 45));
        check.equal("17: the nearest kills first", STOPPED, x.stateOf(1));
        check.equal("17: then the parent kills", STOPPED, x.stateOf(0));
        check.equal("17: 45 are left", 45, x.groupMemory(0));

        ContainerHost y = Hosts.withImage();
        y.newGroup(0, 100, 100, 1);
        y.newGroup(1, 50, 100, 1);
        y.run(0, 1, 0, 1);
        y.run(0, 2, 0, 1);
        y.run(0, 2, 0, 1);
        y.allocate(0, 60);
        y.allocate(1, 30);
        check.equal("17: 40 fit after the first", 40, y.allocate(2, 40));
        check.equal("17: so the parent kills none", RUNNING, y.stateOf(0));
    }

    private static void allocateKillsTheOneThatAsks() {
        ContainerHost x = Hosts.withImage();
        x.newGroup(0, 100, 100, 1);
        x.run(0, 1, 0, 1);
        x.run(0, 1, 0, 1);
        x.allocate(0, 20);
        x.allocate(1, 30);
        check.equal("17: it has the most itself", NONE, x.allocate(1, 1000));
        check.equal("17: it is STOPPED", STOPPED, x.stateOf(1));
        check.equal("17: it has nothing", 0, x.memoryOf(1));
        check.equal("17: the other one goes on", RUNNING, x.stateOf(0));
        check.equal("17: with its memory", 20, x.groupMemory(1));

        ContainerHost y = Hosts.withImage();
        y.newGroup(0, 10, 100, 1);
        y.run(0, 1, 0, 1);
        check.equal("17: alone, one too many", NONE, y.allocate(0, 11));
        check.equal("17: no processes", 0, y.groupProcesses(0));
    }

    private static void allocateKillsPausedAndEmpty() {
        ContainerHost x = Hosts.withImage();
        x.newGroup(0, 100, 100, 1);
        x.run(0, 1, 0, 1);
        x.run(0, 1, 0, 1);
        x.run(0, 1, 0, 1);
        x.allocate(0, 60);
        x.pause(0);
        check.equal("17: the paused one is killed", 50, x.allocate(1, 50));
        check.equal("17: it is STOPPED", STOPPED, x.stateOf(0));
        x.stop(1);
        check.equal("17: all have none: the last one is killed", NONE, x.allocate(2, 101));

        ContainerHost y = Hosts.withImage();
        y.newGroup(0, 100, 100, 1);
        y.run(0, 1, 0, 1);
        y.run(0, 1, 0, 1);
        check.equal("17: an empty one is killed, then the one that asks", NONE, y.allocate(0, 101));
        check.equal("17: the empty one", STOPPED, y.stateOf(1));
    }

    private static void allocateRefuses() {
        ContainerHost x = Hosts.withImage();
        x.run(0, 0, 0, 1);
        check.outOfRange("17: units 0", () -> x.allocate(0, 0));
        check.outOfRange("17: units 5001", () -> x.allocate(0, 5001));
        check.outOfRange("17: least units", () -> x.allocate(0, Integer.MIN_VALUE));
        check.outOfRange("17: greatest units", () -> x.allocate(0, Integer.MAX_VALUE));
        check.noSuch("17: container before units", () -> x.allocate(1, 0));
        x.pause(0);
        check.refused("17: PAUSED", () -> x.allocate(0, 1));
        check.outOfRange("17: units before state", () -> x.allocate(0, 0));
        x.stop(0);
        check.refused("17: STOPPED", () -> x.allocate(0, 1));
        check.equal("17: nothing allocated", 0, x.groupMemory(0));
    }

    private static void oneUnitOverTheRootKills() {
        ContainerHost x = Hosts.withContainers(3);
        x.allocate(0, 5000);
        x.allocate(1, 4000);
        check.equal("17: the root just full", 1000, x.allocate(2, 1000));
        check.equal("17: none was killed for it", 10000, x.groupMemory(0));
        check.equal("17: one unit over the root's limit", 1001, x.allocate(2, 1));
        check.equal("17: the largest was killed", STOPPED, x.stateOf(0));
        check.equal("17: the next one was not", RUNNING, x.stateOf(1));
        check.equal("17: memory of the root", 5001, x.groupMemory(0));
    }

    private static void fitsExactlyAfterAKill() {
        ContainerHost x = Hosts.withImage();
        x.newGroup(0, 100, 100, 1);
        for (int i = 0; i < 3; i++) {
            x.run(0, 1, 0, 1);
        }
        x.allocate(0, 40);
        x.allocate(1, 30);
        check.equal("17: 30 and 70 are the limit", 70, x.allocate(2, 70));
        check.equal("17: one kill is enough", STOPPED, x.stateOf(0));
        check.equal("17: so the second is not killed", RUNNING, x.stateOf(1));
        check.equal("17: full", 100, x.groupMemory(1));

        ContainerHost y = Hosts.withImage();
        y.newGroup(0, 100, 100, 1);
        for (int i = 0; i < 3; i++) {
            y.run(0, 1, 0, 1);
        }
        y.allocate(0, 40);
        y.allocate(1, 30);
        check.equal("17: 30 and 71 are one too many", 71, y.allocate(2, 71));
        check.equal("17: so the second is killed too", STOPPED, y.stateOf(1));
    }

    private static void ofEqualOnesTheGreatestNumber() {
        ContainerHost x = Hosts.withImage();
        x.newGroup(0, 100, 100, 1);
        for (int i = 0; i < 3; i++) {
            x.run(0, 1, 0, 1);
            x.allocate(i, 30);
        }
        check.equal("17: the greatest number asks and is killed", NONE, x.allocate(2, 11));
        check.equal("17: the ones before it go on", 60, x.groupMemory(1));
        check.equal("17: a lesser number asks", 70, x.allocate(0, 40));
        check.equal("17: the one as large with the greater number", RUNNING, x.stateOf(1));
        check.equal("17: it still fits", 100, x.groupMemory(1));
        x.free(0, 40);
        check.equal("17: a lesser number asks for one too many", 71, x.allocate(0, 41));
        check.equal("17: the one as large is killed", STOPPED, x.stateOf(1));
    }

    private static void whatIsAskedForDoesNotCount() {
        ContainerHost x = Hosts.withImage();
        x.newGroup(0, 100, 100, 1);
        x.run(0, 1, 0, 1);
        x.run(0, 1, 0, 1);
        x.allocate(0, 2);
        x.allocate(1, 1);
        check.equal("17: it has less without what it asks for", 99, x.allocate(1, 98));
        check.equal("17: so the other one was killed", STOPPED, x.stateOf(0));
        check.equal("17: now it has the most", NONE, x.allocate(1, 2));
    }

    private static void stoppedOnesAreNotLookedAt() {
        ContainerHost x = Hosts.withImage();
        x.newGroup(0, 100, 100, 1);
        for (int i = 0; i < 3; i++) {
            x.run(0, 1, 0, 1);
        }
        x.stop(2);
        x.allocate(0, 1);
        check.equal("17: an empty RUNNING one is killed last", NONE, x.allocate(0, 100));
        check.equal("17: it was not looked at", RUNNING, x.stateOf(1));
        check.equal("17: alone among stopped ones", NONE, x.allocate(1, 101));
        check.equal("17: all have stopped", 0, x.groupProcesses(0));
    }

    private static void killsBelowTheTightGroup() {
        ContainerHost x = Hosts.withImage();
        x.newGroup(0, 100, 100, 1);
        x.newGroup(1, 10000, 100, 1);
        x.newGroup(2, 10000, 100, 1);
        x.newGroup(0, 10000, 100, 1);
        x.run(0, 2, 0, 1);
        x.run(0, 3, 0, 1);
        x.run(0, 4, 0, 1);
        x.allocate(1, 50);
        x.allocate(2, 5000);
        x.pause(1);
        check.equal("17: only the group above its own is tight", 60, x.allocate(0, 60));
        check.equal("17: a PAUSED one two groups below is killed", STOPPED, x.stateOf(1));
        check.equal("17: one in a group beside is not", RUNNING, x.stateOf(2));
    }

    private static void killedOnesKeepNothing() {
        ContainerHost x = Hosts.withImage();
        x.newGroup(0, 100, 100, 1);
        x.run(0, 1, 15, 1);
        x.run(0, 1, 15, 1);
        x.allocate(0, 50);
        leaveTraces(x, 0);
        check.equal("17: the other one asks", 51, x.allocate(1, 51));
        keepsFilesAlone("killed for another one", x);
        check.equal("17: the processes of the other one", 1, x.groupProcesses(1));
    }

    private static void theOneThatAskedKeepsNothing() {
        ContainerHost x = Hosts.withImage();
        x.newGroup(0, 100, 100, 1);
        x.run(0, 1, 15, 1);
        x.run(0, 1, 15, 1);
        x.allocate(0, 50);
        leaveTraces(x, 0);
        check.equal("17: killed itself", NONE, x.allocate(0, 51));
        keepsFilesAlone("killed itself", x);
        check.equal("17: nothing is allocated", 0, x.groupMemory(0));
    }

    private static void leaveTraces(ContainerHost x, int container) {
        x.fork(container);
        x.attach(container, 0);
        x.listen(container, 5);
        x.publish(container, 5, 0);
        x.publish(container, 5, 31);
        x.writeFile(container, 9, 99);
    }

    private static void keepsFilesAlone(String when, ContainerHost x) {
        check.equal("17: " + when + ": state", STOPPED, x.stateOf(0));
        check.equal("17: " + when + ": memory", 0, x.memoryOf(0));
        check.equal("17: " + when + ": address", NONE, x.addressOf(0));
        check.equal("17: " + when + ": the address is free", 1, x.attach(1, 0));
        check.refused("17: " + when + ": listens on no port", () -> x.publish(0, 5, 7));
        x.listen(1, 6);
        check.equal("17: " + when + ": no port is published", 1, x.publish(1, 6, 31));
        check.equal("17: " + when + ": files stay", 99, x.fileOf(0, 9));
    }

    /** Each group of the path has room for less than the one above it. */
    private static void throughEightGroups() {
        ContainerHost x = Hosts.withImage();
        for (int group = 1; group < 8; group++) {
            x.newGroup(group - 1, 900 - 100 * group, 100, 1);
        }
        for (int group = 1; group < 8; group++) {
            x.run(0, group, 0, 1);
        }
        x.allocate(6, 200);
        x.allocate(0, 600);
        check.equal("17: the group 1 is full", 800, x.groupMemory(1));
        check.equal("17: the group 1 alone is tight", 1, x.allocate(5, 1));
        check.equal("17: its largest is killed", STOPPED, x.stateOf(0));
        check.equal("17: the deepest goes on", 200, x.groupMemory(7));
        check.equal("17: the deepest is tight", NONE, x.allocate(6, 1));
        check.equal("17: along the path", 1, x.groupMemory(0) * x.groupMemory(6));
        check.equal("17: none in the deepest", 0, x.groupMemory(7));
    }
}

/** Promise 21: schedule. */
public final class ScheduleTest {
    private static final Check check = new Check("ScheduleTest");

    public static void main(String[] args) {
        refuses();
        withoutParts();
        byShares();
        leftToGreatestRemainders();
        leftToEarlierParts();
        groupsBeforeContainers();
        groupsWithoutRunning();
        throughTheTree();
        timesAddUp();
        greatestAmounts();
        nothingForSome();
        nothingLeft();
        pausedOnesAreNoParts();
        aPathOfEightGroups();
        twentyContainers();
        remaindersOfGroupsAndContainers();
        check.finish();
    }

    private static void times(String what, ContainerHost x, int... due) {
        for (int i = 0; i < due.length; i++) {
            check.equal("21: " + what + ", container " + i, due[i], x.timeOf(i));
        }
    }

    private static void refuses() {
        ContainerHost x = Hosts.withImage();
        x.run(0, 0, 0, 1);
        check.outOfRange("21: units 0", () -> x.schedule(0));
        check.outOfRange("21: units 10001", () -> x.schedule(10001));
        check.outOfRange("21: units -1", () -> x.schedule(-1));
        check.outOfRange("21: least units", () -> x.schedule(Integer.MIN_VALUE));
        check.outOfRange("21: greatest units", () -> x.schedule(Integer.MAX_VALUE));
        times("nothing given", x, 0);
    }

    private static void withoutParts() {
        ContainerHost x = Hosts.withImage();
        check.equal("21: no containers", 0, x.schedule(10000));
        x.newGroup(0, 10, 10, 1);
        check.equal("21: an empty group", 0, x.schedule(1));
        x.run(0, 0, 0, 1);
        x.run(0, 1, 0, 1);
        x.pause(0);
        x.stop(1);
        check.equal("21: none RUNNING", 0, x.schedule(10));
        times("none RUNNING", x, 0, 0);
        x.resume(0);
        check.equal("21: the one that goes on", 10, x.schedule(10));
        times("the one that goes on", x, 10, 0);
    }

    private static void byShares() {
        ContainerHost x = Hosts.withImage();
        x.run(0, 0, 0, 1);
        x.run(0, 0, 0, 3);
        x.run(0, 0, 0, 6);
        check.equal("21: all units", 1000, x.schedule(1000));
        times("by shares", x, 100, 300, 600);
    }

    private static void leftToGreatestRemainders() {
        ContainerHost x = Hosts.withImage();
        x.run(0, 0, 0, 3);
        x.run(0, 0, 0, 2);
        x.run(0, 0, 0, 5);
        x.run(0, 0, 0, 7);
        // 10 * (3, 2, 5, 7) / 17: 1 rest 13, 1 rest 3, 2 rest 16, 4 rest 2: two are left.
        x.schedule(10);
        times("greatest remainders", x, 2, 1, 3, 4);
    }

    private static void leftToEarlierParts() {
        ContainerHost x = Hosts.withImage();
        for (int i = 0; i < 3; i++) {
            x.run(0, 0, 0, 5);
        }
        check.equal("21: two of three", 2, x.schedule(2));
        times("earlier ones first", x, 1, 1, 0);
        x.schedule(1);
        times("nothing is remembered", x, 2, 1, 0);
    }

    private static void groupsBeforeContainers() {
        ContainerHost x = Hosts.withImage();
        x.newGroup(0, 10, 10, 4);
        x.newGroup(0, 10, 10, 4);
        x.run(0, 0, 0, 4);
        x.run(0, 2, 0, 1);
        x.run(0, 1, 0, 1);
        x.schedule(1);
        times("the least group first", x, 0, 0, 1);
        x.schedule(2);
        times("both groups first", x, 0, 1, 2);
        x.schedule(4);
        times("again", x, 1, 2, 4);
    }

    private static void groupsWithoutRunning() {
        ContainerHost x = Hosts.withImage();
        x.newGroup(0, 10, 10, 90);
        x.newGroup(1, 10, 10, 90);
        x.newGroup(0, 10, 10, 10);
        x.run(0, 2, 0, 1);
        x.run(0, 3, 0, 1);
        x.run(0, 0, 0, 10);
        x.schedule(110);
        times("RUNNING below", x, 90, 10, 10);
        x.pause(0);
        check.equal("21: paused below", 20, x.schedule(20));
        times("paused below", x, 90, 20, 20);
        x.resume(0);
        x.stop(1);
        x.schedule(100);
        times("stopped in it", x, 180, 20, 30);
    }

    private static void throughTheTree() {
        ContainerHost x = Hosts.withImage();
        x.newGroup(0, 1000, 50, 30);
        x.newGroup(1, 400, 10, 10);
        x.newGroup(1, 400, 10, 20);
        x.run(0, 1, 0, 7);
        x.run(0, 2, 0, 3);
        x.run(0, 3, 0, 1);
        x.run(0, 3, 0, 2);
        x.run(0, 0, 0, 10);
        // Root: 75 to the group 1 and 25. Group 1: 75 * (10, 20, 7) / 37: 20 rest 10, 40 rest 20, 14 rest 7.
        // Group 3 gets the one that is left: 41 * (1, 2) / 3: 13 rest 2, 27 rest 1.
        check.equal("21: all units", 100, x.schedule(100));
        times("through the tree", x, 14, 20, 14, 27, 25);
    }

    private static void timesAddUp() {
        ContainerHost x = Hosts.withImage();
        x.run(0, 0, 0, 1);
        x.run(0, 0, 0, 1);
        x.schedule(3);
        x.schedule(3);
        times("adds up", x, 4, 2);
        x.stop(0);
        x.schedule(5);
        times("the rest", x, 4, 7);
    }

    private static void greatestAmounts() {
        ContainerHost x = Hosts.withImage();
        for (int i = 0; i < 19; i++) {
            x.run(0, 0, 0, 100);
        }
        x.run(0, 0, 0, 1);
        check.equal("21: most units", 10000, x.schedule(10000));
        // 10000 * 100 / 1901: 526 rest 74 each; 10000 / 1901: 5 rest 495: one is left.
        check.equal("21: least shares", 6, x.timeOf(19));
        check.equal("21: most shares", 526, x.timeOf(0));
    }

    private static void nothingForSome() {
        ContainerHost x = Hosts.withImage();
        x.newGroup(0, 10, 10, 1);
        x.newGroup(1, 10, 10, 1);
        x.run(0, 0, 0, 100);
        x.run(0, 2, 0, 100);
        check.equal("21: one unit", 1, x.schedule(1));
        times("the group gets none", x, 1, 0);
        // 50 * (1, 100) / 101: 0 rest 50, 49 rest 51: the container gets the one that is left.
        check.equal("21: rest 50 against 51", 50, x.schedule(50));
        times("the lesser remainder", x, 51, 0);
        // 51 * (1, 100) / 101: 0 rest 51, 50 rest 50.
        check.equal("21: rest 51 against 50", 51, x.schedule(51));
        times("the greater remainder", x, 101, 1);
    }

    private static void nothingLeft() {
        ContainerHost x = Hosts.withImage();
        x.run(0, 0, 0, 2);
        x.run(0, 0, 0, 4);
        x.schedule(3);
        times("no remainder", x, 1, 2);
        x.schedule(9999);
        times("no remainder of many", x, 3334, 6668);
    }

    private static void pausedOnesAreNoParts() {
        ContainerHost x = Hosts.withImage();
        x.newGroup(0, 10, 10, 1);
        x.run(0, 1, 0, 50);
        x.run(0, 1, 0, 50);
        x.run(0, 0, 0, 1);
        x.pause(0);
        check.equal("21: all units", 10, x.schedule(10));
        times("beside a paused one", x, 0, 5, 5);
        x.pause(1);
        check.equal("21: no part in the group", 10, x.schedule(10));
        times("the group is no part", x, 0, 5, 15);
        x.pause(2);
        check.equal("21: no parts at all", 0, x.schedule(10000));
        times("nothing is given", x, 0, 5, 15);
        x.resume(0);
        check.equal("21: one part", 7, x.schedule(7));
        times("nothing was kept for it", x, 7, 5, 15);
    }

    private static void aPathOfEightGroups() {
        ContainerHost x = Hosts.withImage();
        for (int group = 1; group < 8; group++) {
            x.newGroup(group - 1, 10, 10, 1);
        }
        x.run(0, 7, 0, 1);
        check.equal("21: down to the deepest", 10000, x.schedule(10000));
        times("all for the deepest", x, 10000);
        for (int group = 6; group >= 0; group--) {
            x.run(0, group, 0, 1);
        }
        check.equal("21: halved at each level", 256, x.schedule(256));
        times("halved at each level", x, 10002, 2, 4, 8, 16, 32, 64, 128);
        check.equal("21: one for the deepest", 1, x.schedule(1));
        times("groups first at each level", x, 10003, 2, 4, 8, 16, 32, 64, 128);
    }

    private static void twentyContainers() {
        ContainerHost x = Hosts.withContainers(20);
        check.equal("21: one less than parts", 19, x.schedule(19));
        check.equal("21: the last one gets none", 0, x.timeOf(19));
        check.equal("21: the one before it gets one", 1, x.timeOf(18));
        check.equal("21: one more than parts", 21, x.schedule(21));
        check.equal("21: the first one gets two", 3, x.timeOf(0));
        check.equal("21: the second one gets one", 2, x.timeOf(1));
        check.equal("21: the last one gets one", 1, x.timeOf(19));
    }

    private static void remaindersOfGroupsAndContainers() {
        ContainerHost x = Hosts.withImage();
        x.run(0, 0, 0, 3);
        x.newGroup(0, 10, 10, 3);
        x.newGroup(0, 10, 10, 1);
        x.run(0, 2, 0, 9);
        x.run(0, 1, 0, 9);
        // 9 * (3, 1, 3) / 7: 3 rest 6, 1 rest 2, 3 rest 6: two are left.
        x.schedule(9);
        times("two equal remainders", x, 4, 1, 4);
        // 4 * (3, 1, 3) / 7: 1 rest 5, 0 rest 4, 1 rest 5: two are left.
        x.schedule(4);
        times("two equal remainders before a lesser one", x, 6, 1, 6);
        // 8 * (3, 1, 3) / 7: 3 rest 3, 1 rest 1, 3 rest 3: one is left, for the group.
        x.schedule(8);
        times("the group is earlier", x, 9, 2, 10);
    }
}

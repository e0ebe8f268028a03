/** Promise 21: schedule. */
public final class ScheduleTest {
    private static final Check check = new Check("ScheduleTest");

    public static void main(String[] args) {
        refuses();
        withoutParts();
        byShares();
        leftToGreatestRemainders();
        leftToEarlierParts();
        groupsBeforeContainers();
        groupsWithoutRunning();
        throughTheTree();
        timesAddUp();
        greatestAmounts();
        check.finish();
    }

    private static ContainerHost hostWithImage() {
        ContainerHost x = new ContainerHost();
        x.newImage(ContainerHost.NONE);
        x.seal(0);
        return x;
    }

    private static void times(String what, ContainerHost x, int... due) {
        for (int i = 0; i < due.length; i++) {
            check.equal("21: " + what + ", container " + i, due[i], x.timeOf(i));
        }
    }

    private static void refuses() {
        ContainerHost x = hostWithImage();
        x.run(0, 0, 0, 1);
        check.outOfRange("21: units 0", () -> x.schedule(0));
        check.outOfRange("21: units 10001", () -> x.schedule(10001));
        check.outOfRange("21: units -1", () -> x.schedule(-1));
        check.outOfRange("21: least units", () -> x.schedule(Integer.MIN_VALUE));
        check.outOfRange("21: greatest units", () -> x.schedule(Integer.MAX_VALUE));
        times("nothing given", x, 0);
    }

    private static void withoutParts() {
        ContainerHost x = hostWithImage();
        check.equal("21: no containers", 0, x.schedule(10000));
        x.newGroup(0, 10, 10, 1);
        check.equal("21: an empty group", 0, x.schedule(1));
        x.run(0, 0, 0, 1);
        x.run(0, 1, 0, 1);
        x.pause(0);
        x.stop(1);
        check.equal("21: none RUNNING", 0, x.schedule(10));
        times("none RUNNING", x, 0, 0);
        x.resume(0);
        check.equal("21: the one that goes on", 10, x.schedule(10));
        times("the one that goes on", x, 10, 0);
    }

    private static void byShares() {
        ContainerHost x = hostWithImage();
        x.run(0, 0, 0, 1);
        x.run(0, 0, 0, 3);
        x.run(0, 0, 0, 6);
        check.equal("21: all units", 1000, x.schedule(1000));
        times("by shares", x, 100, 300, 600);
    }

    private static void leftToGreatestRemainders() {
        ContainerHost x = hostWithImage();
        x.run(0, 0, 0, 3);
        x.run(0, 0, 0, 2);
        x.run(0, 0, 0, 5);
        x.run(0, 0, 0, 7);
        // 10 * (3, 2, 5, 7) / 17: 1 rest 13, 1 rest 3, 2 rest 16, 4 rest 2: two are left.
        x.schedule(10);
        times("greatest remainders", x, 2, 1, 3, 4);
    }

    private static void leftToEarlierParts() {
        ContainerHost x = hostWithImage();
        for (int i = 0; i < 3; i++) {
            x.run(0, 0, 0, 5);
        }
        check.equal("21: two of three", 2, x.schedule(2));
        times("earlier ones first", x, 1, 1, 0);
        x.schedule(1);
        times("nothing is remembered", x, 2, 1, 0);
    }

    private static void groupsBeforeContainers() {
        ContainerHost x = hostWithImage();
        x.newGroup(0, 10, 10, 4);
        x.newGroup(0, 10, 10, 4);
        x.run(0, 0, 0, 4);
        x.run(0, 2, 0, 1);
        x.run(0, 1, 0, 1);
        x.schedule(1);
        times("the least group first", x, 0, 0, 1);
        x.schedule(2);
        times("both groups first", x, 0, 1, 2);
        x.schedule(4);
        times("again", x, 1, 2, 4);
    }

    private static void groupsWithoutRunning() {
        ContainerHost x = hostWithImage();
        x.newGroup(0, 10, 10, 90);
        x.newGroup(1, 10, 10, 90);
        x.newGroup(0, 10, 10, 10);
        x.run(0, 2, 0, 1);
        x.run(0, 3, 0, 1);
        x.run(0, 0, 0, 10);
        x.schedule(110);
        times("RUNNING below", x, 90, 10, 10);
        x.pause(0);
        check.equal("21: paused below", 20, x.schedule(20));
        times("paused below", x, 90, 20, 20);
        x.resume(0);
        x.stop(1);
        x.schedule(100);
        times("stopped in it", x, 180, 20, 30);
    }

    private static void throughTheTree() {
        ContainerHost x = hostWithImage();
        x.newGroup(0, 1000, 50, 30);
        x.newGroup(1, 400, 10, 10);
        x.newGroup(1, 400, 10, 20);
        x.run(0, 1, 0, 7);
        x.run(0, 2, 0, 3);
        x.run(0, 3, 0, 1);
        x.run(0, 3, 0, 2);
        x.run(0, 0, 0, 10);
        // Root: 75 to the group 1 and 25. Group 1: 75 * (10, 20, 7) / 37: 20 rest 10, 40 rest 20, 14 rest 7.
        // Group 3 gets the one that is left: 41 * (1, 2) / 3: 13 rest 2, 27 rest 1.
        check.equal("21: all units", 100, x.schedule(100));
        times("through the tree", x, 14, 20, 14, 27, 25);
    }

    private static void timesAddUp() {
        ContainerHost x = hostWithImage();
        x.run(0, 0, 0, 1);
        x.run(0, 0, 0, 1);
        x.schedule(3);
        x.schedule(3);
        times("adds up", x, 4, 2);
        x.stop(0);
        x.schedule(5);
        times("the rest", x, 4, 7);
    }

    private static void greatestAmounts() {
        ContainerHost x = hostWithImage();
        for (int i = 0; i < 19; i++) {
            x.run(0, 0, 0, 100);
        }
        x.run(0, 0, 0, 1);
        check.equal("21: most units", 10000, x.schedule(10000));
        // 10000 * 100 / 1901: 526 rest 74 each; 10000 / 1901: 5 rest 495: one is left.
        check.equal("21: least shares", 6, x.timeOf(19));
        check.equal("21: most shares", 526, x.timeOf(0));
    }
}

import java.util.ArrayList;
import java.util.List;

/**
 * All promises: of the lines of a throws clause that apply the first one decides, and a call that
 * throws changes nothing. Each refused call is made on a host of its own; what that host answers
 * then, to calls that look and to calls that change, is compared with a host without that call.
 */
public final class RefusalsTest {
    private interface Making {
        ContainerHost make();
    }

    private interface HostCall {
        int on(ContainerHost x);
    }

    private interface NumberedCall {
        int on(ContainerHost x, int number);
    }

    private static final int NONE = ContainerHost.NONE;
    private static final Class<IndexOutOfBoundsException> INDEX = IndexOutOfBoundsException.class;
    private static final Class<IllegalArgumentException> RANGE = IllegalArgumentException.class;
    private static final Class<IllegalStateException> STATE = IllegalStateException.class;
    private static final Check check = new Check("RefusalsTest");

    private final String name;
    private final Making making;
    private final List<String> untouched;

    private RefusalsTest(String name, Making making) {
        this.name = name;
        this.making = making;
        this.untouched = allAnswers(making.make());
    }

    public static void main(String[] args) {
        RefusalsTest ordinary = new RefusalsTest("ordinary", RefusalsTest::ordinaryHost);
        ordinary.images();
        ordinary.groups();
        ordinary.runs();
        ordinary.containers();
        ordinary.memory();
        ordinary.processes();
        ordinary.files();
        ordinary.capabilities();
        ordinary.kills();
        ordinary.bridges();
        ordinary.ports();
        ordinary.connections();
        ordinary.checkpoints();
        ordinary.lookingAlone();
        new RefusalsTest("full", RefusalsTest::fullHost).whereAllIsFull();
        check.finish();
    }

    /**
     * Image 0 is sealed, 1 open. Group 1 is in the root, 2 in 1, both with as many processes as they
     * may have. Containers: 0 RUNNING in the root, 1 PAUSED in group 1, 2 STOPPED, 3 RUNNING in
     * group 2 with nothing effective, 4 RUNNING in the root with no capabilities.
     */
    private static ContainerHost ordinaryHost() {
        ContainerHost x = new ContainerHost();
        x.newImage(NONE);
        x.write(0, 0, 10);
        x.write(0, 4, 40);
        x.write(0, 8, 80);
        x.seal(0);
        x.newImage(0);
        x.write(1, 4, 41);
        x.remove(1, 8);
        x.clear(1, 3);
        x.newGroup(0, 100, 4, 10);
        x.newGroup(1, 60, 3, 20);
        x.run(0, 0, 15, 5);
        x.run(0, 1, 15, 6);
        x.run(0, 0, 15, 7);
        x.run(0, 2, 15, 8);
        x.run(0, 0, 0, 9);
        x.allocate(0, 30);
        x.allocate(1, 20);
        x.allocate(3, 10);
        x.fork(3);
        x.fork(3);
        for (int container = 0; container < 4; container++) {
            x.writeFile(container, 5, 50 + container);
        }
        x.attach(0, 1);
        x.attach(1, 1);
        x.listen(0, 6);
        x.listen(1, 7);
        x.listen(2, 8);
        x.publish(0, 6, 9);
        x.publish(2, 8, 10);
        for (int capability = 0; capability < 4; capability++) {
            x.lower(3, capability);
        }
        x.schedule(77);
        x.pause(1);
        x.save(1);
        x.stop(2);
        return x;
    }

    /**
     * As much of all as there can be. Containers: 0 PAUSED on eight layers, 1 listens on all ports and
     * is published on all of the host's, 1 to 6 are on the bridge 2, and 19 has 81 processes.
     */
    private static ContainerHost fullHost() {
        ContainerHost x = Hosts.withEightLayers();
        x.newImage(NONE);
        x.newImage(0);
        for (int group = 1; group < 8; group++) {
            x.newGroup(0, 100, 10, group);
        }
        for (int container = 0; container < 20; container++) {
            x.run(container == 0 ? 7 : 0, container == 0 ? 1 : 0, 15, 1);
        }
        x.pause(0);
        for (int checkpoint = 0; checkpoint < 5; checkpoint++) {
            x.save(0);
        }
        for (int container = 1; container < 7; container++) {
            x.attach(container, 2);
        }
        for (int port = 0; port < 16; port++) {
            x.listen(1, port);
        }
        for (int hostPort = 0; hostPort < 32; hostPort++) {
            x.publish(1, hostPort / 2, hostPort);
        }
        for (int processes = 2; processes < 82; processes++) {
            x.fork(19);
        }
        return x;
    }

    private void refused(String what, Class<? extends RuntimeException> due, HostCall call) {
        String told = name + ": " + what;
        ContainerHost x = making.make();
        check.throwing(told, due, () -> call.on(x));
        List<String> touched = allAnswers(x);
        for (int i = 0; i < untouched.size(); i++) {
            if (!untouched.get(i).equals(touched.get(i))) {
                check.report(told + " changed something: " + touched.get(i) + ", due is " + untouched.get(i));
                return;
            }
        }
    }

    /** Numbers below 0, one that is just too great, and the greatest. */
    private void wrongNumbers(String what, Class<? extends RuntimeException> due, int tooGreat, NumberedCall call) {
        for (int number : new int[] {-1, Integer.MIN_VALUE, tooGreat, Integer.MAX_VALUE}) {
            refused(what + " " + number, due, x -> call.on(x, number));
        }
    }

    private void images() {
        wrongNumbers("2: base", INDEX, 2, (x, n) -> x.newImage(n == NONE ? -2 : n));
        refused("2: an open base", STATE, x -> x.newImage(1));
        wrongNumbers("3: image", INDEX, 2, (x, n) -> x.write(n, 0, 0));
        wrongNumbers("3: file", INDEX, 32, (x, n) -> x.write(0, n, 0));
        wrongNumbers("3: content", RANGE, 1000, (x, n) -> x.write(1, 0, n));
        refused("3: content 0", RANGE, x -> x.write(1, 0, 0));
        refused("3: content 0, sealed", RANGE, x -> x.write(0, 0, 0));
        refused("3: sealed", STATE, x -> x.write(0, 0, 1));
        wrongNumbers("4: image", INDEX, 2, (x, n) -> x.remove(n, 1));
        wrongNumbers("4: file", INDEX, 32, (x, n) -> x.remove(0, n));
        refused("4: sealed", STATE, x -> x.remove(0, 4));
        refused("4: never written", STATE, x -> x.remove(1, 1));
        refused("4: removed already", STATE, x -> x.remove(1, 8));
        refused("4: in an opaque directory", STATE, x -> x.remove(1, 12));
        wrongNumbers("5: image", INDEX, 2, (x, n) -> x.clear(n, 0));
        wrongNumbers("5: directory", INDEX, 8, (x, n) -> x.clear(1, n));
        refused("5: directory 8, sealed", INDEX, x -> x.clear(0, 8));
        refused("5: sealed", STATE, x -> x.clear(0, 0));
        wrongNumbers("6: image", INDEX, 2, (x, n) -> x.seal(n));
        refused("6: sealed", STATE, x -> x.seal(0));
        wrongNumbers("9: container", INDEX, 5, (x, n) -> x.commit(n));
    }

    private void groups() {
        wrongNumbers("10: parent", INDEX, 3, (x, n) -> x.newGroup(n, 0, 0, 0));
        wrongNumbers("10: memory", RANGE, 10001, (x, n) -> x.newGroup(2, n, 1, 1));
        wrongNumbers("10: processes", RANGE, 101, (x, n) -> x.newGroup(2, 1, n, 1));
        wrongNumbers("10: shares", RANGE, 101, (x, n) -> x.newGroup(2, 1, 1, n));
        refused("10: memory 0", RANGE, x -> x.newGroup(0, 0, 1, 1));
        refused("10: processes 0", RANGE, x -> x.newGroup(0, 1, 0, 1));
        refused("10: shares 0", RANGE, x -> x.newGroup(0, 1, 1, 0));
    }

    private void runs() {
        wrongNumbers("13: image", INDEX, 2, (x, n) -> x.run(n, 0, 16, 0));
        wrongNumbers("13: group", INDEX, 3, (x, n) -> x.run(1, n, 16, 0));
        wrongNumbers("13: capabilities", RANGE, 16, (x, n) -> x.run(1, 2, n, 1));
        wrongNumbers("13: shares", RANGE, 101, (x, n) -> x.run(1, 2, 0, n));
        refused("13: shares 0", RANGE, x -> x.run(0, 0, 0, 0));
        refused("13: open", STATE, x -> x.run(1, 0, 0, 1));
        refused("13: the group has as many processes as its limit", STATE, x -> x.run(0, 2, 0, 1));
        refused("13: so has the group above", STATE, x -> x.run(0, 1, 0, 1));
    }

    private void containers() {
        wrongNumbers("14: container", INDEX, 5, (x, n) -> Check.of(() -> x.pause(n)).answer());
        refused("14: PAUSED", STATE, x -> Check.of(() -> x.pause(1)).answer());
        refused("14: STOPPED", STATE, x -> Check.of(() -> x.pause(2)).answer());
        wrongNumbers("15: container", INDEX, 5, (x, n) -> Check.of(() -> x.resume(n)).answer());
        refused("15: RUNNING", STATE, x -> Check.of(() -> x.resume(0)).answer());
        refused("15: STOPPED", STATE, x -> Check.of(() -> x.resume(2)).answer());
        wrongNumbers("16: container", INDEX, 5, (x, n) -> x.stop(n));
        refused("16: STOPPED", STATE, x -> x.stop(2));
        wrongNumbers("21: units", RANGE, 10001, (x, n) -> x.schedule(n));
        refused("21: units 0", RANGE, x -> x.schedule(0));
    }

    private void memory() {
        wrongNumbers("17: container", INDEX, 5, (x, n) -> x.allocate(n, 0));
        wrongNumbers("17: units", RANGE, 5001, (x, n) -> x.allocate(0, n));
        refused("17: units 0", RANGE, x -> x.allocate(0, 0));
        refused("17: units 0, PAUSED", RANGE, x -> x.allocate(1, 0));
        refused("17: PAUSED", STATE, x -> x.allocate(1, 5000));
        refused("17: STOPPED", STATE, x -> x.allocate(2, 5000));
        wrongNumbers("18: container", INDEX, 5, (x, n) -> x.free(n, 0));
        wrongNumbers("18: units", RANGE, 5001, (x, n) -> x.free(0, n));
        refused("18: units 0", RANGE, x -> x.free(0, 0));
        refused("18: units 5001, PAUSED", RANGE, x -> x.free(1, 5001));
        refused("18: PAUSED", STATE, x -> x.free(1, 20));
        refused("18: STOPPED", STATE, x -> x.free(2, 1));
        refused("18: one unit more than it has", STATE, x -> x.free(0, 31));
        refused("18: it has none", STATE, x -> x.free(4, 1));
    }

    private void processes() {
        wrongNumbers("19: container", INDEX, 5, (x, n) -> x.fork(n));
        refused("19: PAUSED", STATE, x -> x.fork(1));
        refused("19: STOPPED", STATE, x -> x.fork(2));
        refused("19: as many processes as the limit", STATE, x -> x.fork(3));
        wrongNumbers("20: container", INDEX, 5, (x, n) -> x.exit(n));
        refused("20: PAUSED", STATE, x -> x.exit(1));
        refused("20: STOPPED", STATE, x -> x.exit(2));
    }

    private void files() {
        wrongNumbers("22: container", INDEX, 5, (x, n) -> x.writeFile(n, 0, 0));
        wrongNumbers("22: file", INDEX, 32, (x, n) -> x.writeFile(1, n, 0));
        wrongNumbers("22: content", RANGE, 1000, (x, n) -> x.writeFile(1, 5, n));
        refused("22: content 0", RANGE, x -> x.writeFile(0, 5, 0));
        refused("22: content 0, ADMIN not effective", RANGE, x -> x.writeFile(3, 0, 0));
        refused("22: PAUSED", STATE, x -> x.writeFile(1, 5, 1));
        refused("22: STOPPED", STATE, x -> x.writeFile(2, 5, 1));
        refused("22: ADMIN only permitted", STATE, x -> x.writeFile(3, 0, 1));
        refused("22: ADMIN not permitted", STATE, x -> x.writeFile(4, 3, 1));
        wrongNumbers("23: container", INDEX, 5, (x, n) -> x.removeFile(n, 4));
        wrongNumbers("23: file", INDEX, 32, (x, n) -> x.removeFile(1, n));
        refused("23: PAUSED", STATE, x -> x.removeFile(1, 5));
        refused("23: STOPPED", STATE, x -> x.removeFile(2, 5));
        refused("23: ADMIN only permitted", STATE, x -> x.removeFile(3, 0));
        refused("23: ADMIN not permitted", STATE, x -> x.removeFile(4, 0));
        refused("23: nothing is seen", STATE, x -> x.removeFile(0, 6));
        refused("23: nothing is seen in the directory 0", STATE, x -> x.removeFile(0, 1));
    }

    private void capabilities() {
        wrongNumbers("26: container", INDEX, 5, (x, n) -> x.raise(n, 0));
        wrongNumbers("26: capability", INDEX, 4, (x, n) -> x.raise(1, n));
        refused("26: PAUSED", STATE, x -> x.raise(1, 0));
        refused("26: STOPPED", STATE, x -> x.raise(2, 0));
        refused("26: not permitted", STATE, x -> x.raise(4, 0));
        wrongNumbers("27: container", INDEX, 5, (x, n) -> x.lower(n, 0));
        wrongNumbers("27: capability", INDEX, 4, (x, n) -> x.lower(1, n));
        refused("27: PAUSED", STATE, x -> x.lower(1, 0));
        refused("27: STOPPED", STATE, x -> x.lower(2, 0));
        wrongNumbers("28: container", INDEX, 5, (x, n) -> x.drop(n, 0));
        wrongNumbers("28: capability", INDEX, 4, (x, n) -> x.drop(1, n));
        refused("28: PAUSED", STATE, x -> x.drop(1, 0));
        refused("28: STOPPED", STATE, x -> x.drop(2, 0));
    }

    private void kills() {
        wrongNumbers("29: container", INDEX, 5, (x, n) -> x.kill(n, 0));
        wrongNumbers("29: victim", INDEX, 5, (x, n) -> x.kill(2, n));
        refused("29: PAUSED", STATE, x -> x.kill(1, 3));
        refused("29: STOPPED", STATE, x -> x.kill(2, 0));
        refused("29: KILL only permitted", STATE, x -> x.kill(3, 0));
        refused("29: KILL not permitted", STATE, x -> x.kill(4, 0));
        refused("29: itself", STATE, x -> x.kill(0, 0));
        refused("29: a STOPPED victim", STATE, x -> x.kill(0, 2));
        refused("29: a group above", STATE, x -> {
            // Raised and lowered again, so that nothing but the kill could be seen.
            x.raise(3, ContainerHost.KILL);
            try {
                return x.kill(3, 1);
            } finally {
                x.lower(3, ContainerHost.KILL);
            }
        });
    }

    private void bridges() {
        wrongNumbers("30: container", INDEX, 5, (x, n) -> x.attach(n, 0));
        wrongNumbers("30: bridge", INDEX, 4, (x, n) -> x.attach(1, n));
        refused("30: PAUSED", STATE, x -> x.attach(1, 0));
        refused("30: STOPPED", STATE, x -> x.attach(2, 0));
        refused("30: ATTACH only permitted", STATE, x -> x.attach(3, 0));
        refused("30: ATTACH not permitted", STATE, x -> x.attach(4, 0));
        refused("30: attached there", STATE, x -> x.attach(0, 1));
        refused("30: attached elsewhere", STATE, x -> x.attach(0, 0));
        wrongNumbers("31: container", INDEX, 5, (x, n) -> x.detach(n));
        refused("31: PAUSED", STATE, x -> x.detach(1));
        refused("31: STOPPED", STATE, x -> x.detach(2));
        refused("31: not attached", STATE, x -> x.detach(3));
    }

    private void ports() {
        wrongNumbers("32: container", INDEX, 5, (x, n) -> x.listen(n, 5));
        wrongNumbers("32: port", INDEX, 16, (x, n) -> x.listen(1, n));
        refused("32: PAUSED", STATE, x -> x.listen(1, 5));
        refused("32: STOPPED", STATE, x -> x.listen(2, 5));
        refused("32: listens on it", STATE, x -> x.listen(0, 6));
        refused("32: BIND only permitted", STATE, x -> x.listen(3, 3));
        refused("32: BIND not permitted", STATE, x -> x.listen(4, 0));
        wrongNumbers("33: container", INDEX, 5, (x, n) -> x.publish(n, 6, 0));
        wrongNumbers("33: port", INDEX, 16, (x, n) -> x.publish(0, n, 0));
        wrongNumbers("33: port of the host", INDEX, 32, (x, n) -> x.publish(0, 5, n));
        refused("33: does not listen", STATE, x -> x.publish(0, 5, 0));
        refused("33: another one listens", STATE, x -> x.publish(0, 7, 0));
        refused("33: STOPPED", STATE, x -> x.publish(2, 8, 10));
        refused("33: published", STATE, x -> x.publish(0, 6, 9));
        refused("33: published by another one", STATE, x -> x.publish(1, 7, 9));
    }

    private void connections() {
        wrongNumbers("34: container", INDEX, 5, (x, n) -> x.connect(n, 0, 6));
        wrongNumbers("34: port", INDEX, 16, (x, n) -> x.connect(0, 0, n));
        wrongNumbers("34: address", RANGE, 7, (x, n) -> x.connect(0, n, 6));
        refused("34: address 0", RANGE, x -> x.connect(0, 0, 6));
        refused("34: address 0, not attached", RANGE, x -> x.connect(3, 0, 6));
        refused("34: address 7, PAUSED", RANGE, x -> x.connect(1, 7, 6));
        refused("34: address 7, STOPPED", RANGE, x -> x.connect(2, 7, 6));
        refused("34: PAUSED", STATE, x -> x.connect(1, 1, 6));
        refused("34: STOPPED", STATE, x -> x.connect(2, 1, 6));
        refused("34: not attached", STATE, x -> x.connect(3, 1, 6));
        wrongNumbers("35: port of the host", INDEX, 32, (x, n) -> x.connectHost(n));
    }

    private void checkpoints() {
        wrongNumbers("36: container", INDEX, 5, (x, n) -> x.save(n));
        refused("36: RUNNING", STATE, x -> x.save(0));
        refused("36: STOPPED", STATE, x -> x.save(2));
        wrongNumbers("37: checkpoint", INDEX, 1, (x, n) -> x.restore(n, 2));
        wrongNumbers("37: group", INDEX, 3, (x, n) -> x.restore(0, n));
        refused("37: more processes than the limit", STATE, x -> x.restore(0, 2));
        refused("37: more than the limit above", STATE, x -> x.restore(0, 1));
    }

    private void lookingAlone() {
        wrongNumbers("7: image", INDEX, 2, (x, n) -> x.shown(n, 0));
        wrongNumbers("7: file", INDEX, 32, (x, n) -> x.shown(0, n));
        wrongNumbers("8: image", INDEX, 2, (x, n) -> x.entries(n, 0));
        wrongNumbers("8: layer of one", INDEX, 1, (x, n) -> x.entries(0, n));
        wrongNumbers("8: layer of two", INDEX, 2, (x, n) -> x.entries(1, n));
        wrongNumbers("11: group", INDEX, 3, (x, n) -> x.groupMemory(n));
        wrongNumbers("12: group", INDEX, 3, (x, n) -> x.groupProcesses(n));
        wrongNumbers("24: container", INDEX, 5, (x, n) -> x.fileOf(n, 0));
        wrongNumbers("24: file", INDEX, 32, (x, n) -> x.fileOf(0, n));
        wrongNumbers("25: container", INDEX, 5, (x, n) -> x.plainFileOf(n, 0));
        wrongNumbers("25: file", INDEX, 32, (x, n) -> x.plainFileOf(0, n));
        wrongNumbers("39: container", INDEX, 5, (x, n) -> x.stateOf(n));
        wrongNumbers("40: container", INDEX, 5, (x, n) -> x.memoryOf(n));
        wrongNumbers("41: container", INDEX, 5, (x, n) -> x.timeOf(n));
        wrongNumbers("42: container", INDEX, 5, (x, n) -> x.capabilitiesOf(n));
        wrongNumbers("43: container", INDEX, 5, (x, n) -> x.addressOf(n));
    }

    private void whereAllIsFull() {
        wrongNumbers("2: base", INDEX, 10, (x, n) -> x.newImage(n == NONE ? -2 : n));
        refused("2: 10 images, no base", STATE, x -> x.newImage(NONE));
        refused("2: 10 images, a sealed base", STATE, x -> x.newImage(0));
        refused("2: 10 images, an open base", STATE, x -> x.newImage(8));
        refused("2: 10 images, a base with 8 layers", STATE, x -> x.newImage(7));
        refused("9: 10 images", STATE, x -> x.commit(1));
        refused("9: 10 images, 8 layers", STATE, x -> x.commit(0));
        wrongNumbers("9: container", INDEX, 20, (x, n) -> x.commit(n));
        wrongNumbers("10: parent", INDEX, 8, (x, n) -> x.newGroup(n, 1, 1, 1));
        refused("10: 8 groups", STATE, x -> x.newGroup(0, 1, 1, 1));
        refused("10: 8 groups, memory 0", RANGE, x -> x.newGroup(0, 0, 1, 1));
        refused("10: 8 groups, processes 0", RANGE, x -> x.newGroup(0, 1, 0, 1));
        refused("10: 8 groups, shares 0", RANGE, x -> x.newGroup(0, 1, 1, 0));
        wrongNumbers("13: group", INDEX, 8, (x, n) -> x.run(0, n, 0, 1));
        refused("13: 20 containers", STATE, x -> x.run(0, 1, 0, 1));
        refused("13: 20 containers, shares 0", RANGE, x -> x.run(0, 1, 0, 0));
        refused("13: 20 containers, capabilities 16", RANGE, x -> x.run(0, 1, 16, 1));
        refused("19: the root has 100 processes", STATE, x -> x.fork(1));
        refused("30: the bridge is full", STATE, x -> x.attach(7, 2));
        for (int number = 0; number < 16; number++) {
            int port = number;
            refused("32: listens on all, " + port, STATE, x -> x.listen(1, port));
            refused("33: all are published, " + port, STATE, x -> x.publish(1, port, 2 * port + 1));
        }
        wrongNumbers("33: port of the host", INDEX, 32, (x, n) -> x.publish(1, 0, n));
        refused("36: 5 checkpoints", STATE, x -> x.save(0));
        wrongNumbers("37: checkpoint", INDEX, 5, (x, n) -> x.restore(n, 1));
        wrongNumbers("37: group", INDEX, 8, (x, n) -> x.restore(0, n));
        refused("37: 20 containers", STATE, x -> x.restore(4, 1));
    }

    /** What a host answers to one long row of calls; at most some 300, as an object is promised 512. */
    private static List<String> allAnswers(ContainerHost x) {
        List<String> told = new ArrayList<>();
        looks(x, told);
        changes(x, told);
        return told;
    }

    private static void looks(ContainerHost x, List<String> told) {
        told.add("containers " + x.containers());
        for (int i = 0; i < 10; i++) {
            int n = i;
            tell(told, "groupMemory " + n, () -> x.groupMemory(n));
            tell(told, "groupProcesses " + n, () -> x.groupProcesses(n));
            tell(told, "shown 4 of " + n, () -> x.shown(n, 4));
            tell(told, "entries 0 of " + n, () -> x.entries(n, 0));
            tell(told, "connectHost " + n, () -> x.connectHost(n));
        }
        for (int i = 0; i < 6; i++) {
            int n = i;
            tell(told, "stateOf " + n, () -> x.stateOf(n));
            tell(told, "memoryOf " + n, () -> x.memoryOf(n));
            tell(told, "timeOf " + n, () -> x.timeOf(n));
            tell(told, "capabilitiesOf " + n, () -> x.capabilitiesOf(n));
            tell(told, "addressOf " + n, () -> x.addressOf(n));
            tell(told, "fileOf 5 of " + n, () -> x.fileOf(n, 5));
            tell(told, "entries 1 of " + n, () -> x.entries(n, 1));
        }
        for (int i = 0; i < 13; i++) {
            int n = i;
            tell(told, "shown " + n + " of 1", () -> x.shown(1, n));
            tell(told, "fileOf " + n + " of 0", () -> x.fileOf(0, n));
        }
        told.add("connectHost 10 " + x.connectHost(10));
    }

    /** Calls that tell by what they answer what no call tells that looks alone. */
    private static void changes(ContainerHost x, List<String> told) {
        tell(told, "connect", () -> x.connect(0, 2, 7));
        tell(told, "publish", () -> x.publish(0, 6, 31));
        for (int i = 0; i < 5; i++) {
            int n = i;
            tell(told, "listen 5 of " + n, () -> x.listen(n, 5));
            tell(told, "exit of " + n, () -> x.exit(n));
            tell(told, "fork of " + n, () -> x.fork(n));
            tell(told, "raise of " + n, () -> x.raise(n, ContainerHost.ATTACH));
            tell(told, "attach of " + n, () -> x.attach(n, 0));
            tell(told, "resume of " + n, Check.of(() -> x.resume(n)));
            tell(told, "write of " + n, () -> x.write(n, 16, 7));
        }
        tell(told, "exit of 19", () -> x.exit(19));
        tell(told, "schedule", () -> x.schedule(1000));
        for (int i = 0; i < 6; i++) {
            int n = i;
            tell(told, "timeOf " + n, () -> x.timeOf(n));
            tell(told, "stateOf " + n, () -> x.stateOf(n));
        }
        for (int i = 0; i < 2; i++) {
            tell(told, "newGroup", () -> x.newGroup(0, 100, 10, 10));
            tell(told, "newImage", () -> x.newImage(NONE));
            tell(told, "commit", () -> x.commit(4));
            tell(told, "run", () -> x.run(0, 0, 15, 1));
            tell(told, "pause", Check.of(() -> x.pause(0)));
            tell(told, "save", () -> x.save(0));
        }
        for (int i = 0; i < 4; i++) {
            int n = i;
            tell(told, "seal of " + n, () -> x.seal(n));
            tell(told, "restore " + n, () -> x.restore(n, 0));
        }
        told.add("containers " + x.containers());
        told.add("groupProcesses " + x.groupProcesses(0));
    }

    private static void tell(List<String> told, String what, Check.Call call) {
        try {
            told.add(what + ": " + call.answer());
        } catch (RuntimeException thrown) {
            told.add(what + ": " + thrown.getClass().getSimpleName());
        }
    }
}

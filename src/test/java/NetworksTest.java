/** Promises 30 to 35: networks. */
public final class NetworksTest {
    private static final int NONE = ContainerHost.NONE;
    private static final int[] WRONG_NUMBERS = {-1, Integer.MIN_VALUE, Integer.MAX_VALUE};
    private static final Check check = new Check("NetworksTest");

    public static void main(String[] args) {
        attachAnswers();
        attachRefuses();
        detachAnswers();
        listenAnswers();
        listenRefuses();
        publishAnswers();
        publishRefuses();
        connectAnswers();
        connectRefuses();
        connectHostAnswers();
        everyBridgeFull();
        everyPortOfAContainer();
        everyPortOfTheHost();
        bindForFourPorts();
        theLeastAddressIsFree();
        check.finish();
    }

    private static void attachAnswers() {
        ContainerHost x = Hosts.withContainers(9);
        for (int i = 0; i < 6; i++) {
            check.equal("30: the least address", i + 1, x.attach(i, 3));
        }
        check.refused("30: no address is free", () -> x.attach(6, 3));
        check.equal("30: another bridge", 1, x.attach(6, 0));
        check.equal("30: where it is", 1, x.addressOf(6));
        check.equal("30: the last address", 36, x.addressOf(5));
        x.detach(4);
        x.stop(1);
        check.equal("30: a stopped one's address", 2, x.attach(7, 3));
        check.equal("30: a detached one's address", 5, x.attach(8, 3));
    }

    private static void attachRefuses() {
        ContainerHost x = Hosts.withContainers(2);
        x.run(0, 0, 11, 1);
        for (int number : WRONG_NUMBERS) {
            check.noSuch("30: container " + number, () -> x.attach(number, 0));
            check.noSuch("30: bridge " + number, () -> x.attach(0, number));
        }
        check.noSuch("30: container 3", () -> x.attach(3, 0));
        check.noSuch("30: bridge 4", () -> x.attach(0, 4));
        check.refused("30: without ATTACH", () -> x.attach(2, 0));
        x.attach(0, 0);
        check.refused("30: attached there", () -> x.attach(0, 0));
        check.refused("30: attached elsewhere", () -> x.attach(0, 1));
        check.equal("30: it stays there", 1, x.addressOf(0));
        x.pause(1);
        check.refused("30: PAUSED", () -> x.attach(1, 0));
        check.noSuch("30: bridge before state", () -> x.attach(1, 4));
        x.stop(1);
        check.refused("30: STOPPED", () -> x.attach(1, 0));
    }

    private static void detachAnswers() {
        ContainerHost x = Hosts.withContainers(2);
        for (int number : WRONG_NUMBERS) {
            check.noSuch("31: container " + number, () -> x.detach(number));
        }
        check.noSuch("31: container 2", () -> x.detach(2));
        check.refused("31: not attached", () -> x.detach(0));
        x.attach(0, 2);
        x.lower(0, ContainerHost.ATTACH);
        check.equal("31: its bridge", 2, x.detach(0));
        check.equal("31: nowhere", NONE, x.addressOf(0));
        check.refused("31: detached already", () -> x.detach(0));
        x.attach(1, 0);
        x.pause(1);
        check.refused("31: PAUSED", () -> x.detach(1));
        check.equal("31: it stays attached", 1, x.addressOf(1));
        x.resume(1);
        check.equal("31: the bridge 0", 0, x.detach(1));
        x.attach(1, 0);
        x.stop(1);
        check.refused("31: STOPPED", () -> x.detach(1));
    }

    private static void listenAnswers() {
        ContainerHost x = Hosts.withContainers(2);
        for (int port = 0; port < 16; port++) {
            check.equal("32: ports", port + 1, x.listen(0, port));
        }
        check.equal("32: another container", 1, x.listen(1, 15));
    }

    private static void listenRefuses() {
        ContainerHost x = Hosts.withContainers(1);
        x.run(0, 0, 14, 1);
        for (int number : WRONG_NUMBERS) {
            check.noSuch("32: container " + number, () -> x.listen(number, 5));
            check.noSuch("32: port " + number, () -> x.listen(0, number));
        }
        check.noSuch("32: container 2", () -> x.listen(2, 5));
        check.noSuch("32: port 16", () -> x.listen(0, 16));
        check.refused("32: the port 0 without BIND", () -> x.listen(1, 0));
        check.refused("32: the port 3 without BIND", () -> x.listen(1, 3));
        check.equal("32: the port 4 without BIND", 1, x.listen(1, 4));
        check.refused("32: listens on it", () -> x.listen(1, 4));
        check.equal("32: with BIND", 1, x.listen(0, 3));
        x.lower(0, ContainerHost.BIND);
        check.refused("32: BIND only permitted", () -> x.listen(0, 2));
        x.pause(0);
        check.refused("32: PAUSED", () -> x.listen(0, 5));
        check.noSuch("32: port before state", () -> x.listen(0, 16));
        x.resume(0);
        check.equal("32: refused calls do not count", 2, x.listen(0, 5));
        x.stop(0);
        check.refused("32: STOPPED", () -> x.listen(0, 6));
    }

    private static void publishAnswers() {
        ContainerHost x = Hosts.withContainers(2);
        x.listen(0, 0);
        x.listen(0, 15);
        x.listen(1, 15);
        check.equal("33: first", 1, x.publish(0, 0, 0));
        check.equal("33: second", 2, x.publish(0, 15, 31));
        check.equal("33: the same port again", 3, x.publish(0, 15, 30));
        check.equal("33: another container", 4, x.publish(1, 15, 1));
        x.pause(1);
        check.equal("33: a paused one", 5, x.publish(1, 15, 2));
        x.stop(0);
        check.equal("33: ports of a stopped one do not count", 3, x.publish(1, 15, 0));
    }

    private static void publishRefuses() {
        ContainerHost x = Hosts.withContainers(2);
        x.listen(0, 5);
        x.listen(1, 6);
        for (int number : WRONG_NUMBERS) {
            check.noSuch("33: container " + number, () -> x.publish(number, 5, 0));
            check.noSuch("33: port " + number, () -> x.publish(0, number, 0));
            check.noSuch("33: host port " + number, () -> x.publish(0, 5, number));
        }
        check.noSuch("33: container 2", () -> x.publish(2, 5, 0));
        check.noSuch("33: port 16", () -> x.publish(0, 16, 0));
        check.noSuch("33: host port 32", () -> x.publish(0, 5, 32));
        check.noSuch("33: host port before listening", () -> x.publish(0, 6, 32));
        check.refused("33: does not listen", () -> x.publish(0, 6, 0));
        x.publish(0, 5, 9);
        check.refused("33: published", () -> x.publish(0, 5, 9));
        check.refused("33: published by another", () -> x.publish(1, 6, 9));
        check.equal("33: refused calls do not count", 2, x.publish(1, 6, 10));
        check.equal("33: it stays", 0, x.connectHost(9));
        x.stop(1);
        for (int i = 0; i < 16; i++) {
            int port = i;
            check.refused("33: a stopped one listens on none", () -> x.publish(1, port, 11));
        }
    }

    private static void connectAnswers() {
        ContainerHost x = Hosts.withContainers(4);
        x.attach(0, 1);
        x.attach(1, 1);
        x.attach(2, 2);
        x.attach(3, 1);
        x.listen(0, 9);
        x.listen(1, 0);
        x.listen(2, 9);
        x.listen(3, 15);
        check.equal("34: another one", 1, x.connect(0, 2, 0));
        check.equal("34: the last port", 3, x.connect(0, 3, 15));
        check.equal("34: itself", 0, x.connect(0, 1, 9));
        check.equal("34: a port without a listener", NONE, x.connect(0, 2, 9));
        check.equal("34: an address of no one", NONE, x.connect(0, 6, 9));
        check.equal("34: its own bridge", 2, x.connect(2, 1, 9));
        x.pause(1);
        check.equal("34: PAUSED", NONE, x.connect(0, 2, 0));
        x.resume(1);
        check.equal("34: goes on", 1, x.connect(0, 2, 0));
        x.detach(1);
        check.equal("34: detached", NONE, x.connect(0, 2, 0));
        x.stop(3);
        check.equal("34: STOPPED", NONE, x.connect(0, 3, 15));
    }

    private static void connectRefuses() {
        ContainerHost x = Hosts.withContainers(2);
        x.attach(0, 0);
        for (int number : WRONG_NUMBERS) {
            check.noSuch("34: container " + number, () -> x.connect(number, 1, 0));
            check.noSuch("34: port " + number, () -> x.connect(0, 1, number));
            check.outOfRange("34: address " + number, () -> x.connect(0, number, 0));
        }
        check.noSuch("34: container 2", () -> x.connect(2, 1, 0));
        check.noSuch("34: port 16", () -> x.connect(0, 1, 16));
        check.noSuch("34: port before address", () -> x.connect(0, 0, 16));
        check.outOfRange("34: address 0", () -> x.connect(0, 0, 0));
        check.outOfRange("34: address 7", () -> x.connect(0, 7, 0));
        check.outOfRange("34: address before attached", () -> x.connect(1, 7, 0));
        check.refused("34: not attached", () -> x.connect(1, 1, 0));
        x.pause(0);
        check.refused("34: PAUSED", () -> x.connect(0, 1, 0));
        x.stop(0);
        check.refused("34: STOPPED", () -> x.connect(0, 1, 0));
    }

    private static void connectHostAnswers() {
        ContainerHost x = Hosts.withContainers(2);
        for (int number : WRONG_NUMBERS) {
            check.noSuch("35: host port " + number, () -> x.connectHost(number));
        }
        check.noSuch("35: host port 32", () -> x.connectHost(32));
        check.equal("35: none published", NONE, x.connectHost(31));
        x.listen(1, 8);
        x.publish(1, 8, 31);
        check.equal("35: published", 1, x.connectHost(31));
        check.equal("35: another port", NONE, x.connectHost(8));
        x.pause(1);
        check.equal("35: PAUSED", NONE, x.connectHost(31));
        x.resume(1);
        check.equal("35: goes on", 1, x.connectHost(31));
        x.stop(1);
        check.equal("35: STOPPED", NONE, x.connectHost(31));
    }

    private static void everyBridgeFull() {
        ContainerHost x = Hosts.withContainers(19);
        for (int bridge = 0; bridge < 3; bridge++) {
            for (int address = 1; address <= 6; address++) {
                int container = bridge * 6 + address - 1;
                check.equal("30: bridge " + bridge, address, x.attach(container, bridge));
                check.equal("43: bridge " + bridge, 10 * bridge + address, x.addressOf(container));
            }
        }
        for (int full = 0; full < 3; full++) {
            int bridge = full;
            check.refused("30: full bridge " + bridge, () -> x.attach(18, bridge));
        }
        check.equal("43: attached nowhere", NONE, x.addressOf(18));
        check.equal("30: an empty bridge", 1, x.attach(18, 3));
        check.refused("30: attached, and the other one full", () -> x.attach(18, 0));
        x.pause(3);
        x.detach(18);
        check.refused("30: a PAUSED one keeps its address", () -> x.attach(18, 0));
        x.stop(3);
        check.equal("30: a STOPPED one does not", 4, x.attach(18, 0));
    }

    private static void everyPortOfAContainer() {
        ContainerHost x = Hosts.withContainers(1);
        x.attach(0, 0);
        for (int number = 0; number < 16; number++) {
            int port = number;
            check.equal("34: nobody listens on " + port, NONE, x.connect(0, 1, port));
            check.refused("33: nobody listens on " + port, () -> x.publish(0, port, 0));
            check.equal("32: port " + port, port + 1, x.listen(0, port));
            check.refused("32: listens on " + port, () -> x.listen(0, port));
            check.equal("34: port " + port, 0, x.connect(0, 1, port));
        }
        check.noSuch("32: no port 16", () -> x.listen(0, 16));
        check.noSuch("33: no port 16", () -> x.publish(0, 16, 0));
        check.noSuch("34: no port 16", () -> x.connect(0, 1, 16));
    }

    private static void everyPortOfTheHost() {
        ContainerHost x = Hosts.withContainers(2);
        x.listen(0, 8);
        x.listen(1, 8);
        for (int number = 0; number < 32; number++) {
            int port = number;
            check.equal("35: not published yet, " + port, NONE, x.connectHost(port));
            check.equal("33: port " + port, port + 1, x.publish(port % 2, 8, port));
            check.refused("33: published, " + port, () -> x.publish(port % 2, 8, port));
            check.refused("33: published by another, " + port, () -> x.publish(1 - port % 2, 8, port));
            check.equal("35: port " + port, port % 2, x.connectHost(port));
        }
        check.noSuch("33: no port 32", () -> x.publish(0, 8, 32));
        check.noSuch("35: no port 32", () -> x.connectHost(32));
        x.stop(1);
        for (int port = 0; port < 32; port++) {
            check.equal("35: after the stop, " + port, port % 2 == 0 ? 0 : NONE, x.connectHost(port));
        }
        check.equal("33: sixteen are left", 17, x.publish(0, 8, 31));
        x.stop(0);
        check.equal("35: none is left", NONE, x.connectHost(31));
    }

    private static void bindForFourPorts() {
        ContainerHost x = Hosts.withImage();
        x.run(0, 0, 14, 1);
        x.run(0, 0, 1, 1);
        for (int number = 0; number < 16; number++) {
            int port = number;
            if (port < 4) {
                check.refused("32: without BIND, port " + port, () -> x.listen(0, port));
            } else {
                check.equal("32: without BIND, port " + port, port - 3, x.listen(0, port));
            }
            check.equal("32: with BIND alone, port " + port, port + 1, x.listen(1, port));
        }
        x.drop(1, ContainerHost.BIND);
        check.equal("33: no BIND to publish", 1, x.publish(1, 0, 0));
    }

    private static void theLeastAddressIsFree() {
        ContainerHost x = Hosts.withContainers(6);
        for (int i = 0; i < 6; i++) {
            x.attach(i, 1);
        }
        x.detach(5);
        x.detach(0);
        x.detach(2);
        check.equal("30: the first one", 1, x.attach(5, 1));
        check.equal("30: between", 3, x.attach(0, 1));
        check.equal("30: the last one", 6, x.attach(2, 1));
        check.equal("31: its bridge", 1, x.detach(5));
        check.equal("30: detached, it attaches elsewhere", 1, x.attach(5, 0));
        check.equal("43: bridge and address", 1, x.addressOf(5));
    }
}

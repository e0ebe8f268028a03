/** Promises 22 to 25: files of containers. */
public final class FilesTest {
    private static final int NONE = ContainerHost.NONE;
    private static final int[] WRONG_NUMBERS = {-1, Integer.MIN_VALUE, Integer.MAX_VALUE};
    private static final Check check = new Check("FilesTest");

    public static void main(String[] args) {
        writeFileAnswers();
        writeFileRefuses();
        removeFileAnswers();
        removeFileRefuses();
        directoryZeroAsksForAdmin();
        seenInAnyState();
        seenRefuses();
        throughNineLayers();
        leastAndGreatestContents();
        theWholeDirectoryZero();
        check.finish();
    }

    /** An image of two layers: the file 4 to 7 below, the directory 2 opaque above, 5 whited out. */
    private static ContainerHost hostWithLayers() {
        ContainerHost x = new ContainerHost();
        x.newImage(NONE);
        for (int file = 0; file < 12; file++) {
            x.write(0, file, 100 + file);
        }
        x.seal(0);
        x.newImage(0);
        x.remove(1, 5);
        x.clear(1, 2);
        x.write(1, 9, 209);
        x.seal(1);
        return x;
    }

    private static void seen(String what, ContainerHost x, int container, int file, int due) {
        check.equal("24: " + what, due, x.fileOf(container, file));
        check.equal("25: " + what, due, x.plainFileOf(container, file));
    }

    private static void writeFileAnswers() {
        ContainerHost x = hostWithLayers();
        x.run(1, 0, 15, 1);
        x.run(1, 0, 15, 1);
        check.equal("22: over a lower layer", 104, x.writeFile(0, 4, 1));
        check.equal("22: over its own", 1, x.writeFile(0, 4, 999));
        check.equal("22: over a whiteout", 0, x.writeFile(0, 5, 5));
        check.equal("22: in an opaque directory", 0, x.writeFile(0, 8, 8));
        check.equal("22: above an opaque directory", 209, x.writeFile(0, 9, 9));
        check.equal("22: the last file", 0, x.writeFile(0, 31, 31));
        check.equal("22: the directory 0", 103, x.writeFile(0, 3, 3));
        seen("its own content", x, 0, 4, 999);
        seen("over the whiteout", x, 0, 5, 5);
        seen("over the opaque directory", x, 0, 8, 8);
        seen("the last file", x, 0, 31, 31);
        seen("another container", x, 1, 4, 104);
        check.equal("22: the image stays", 104, x.shown(1, 4));
    }

    private static void writeFileRefuses() {
        ContainerHost x = hostWithLayers();
        x.run(1, 0, 15, 1);
        for (int number : WRONG_NUMBERS) {
            check.noSuch("22: container " + number, () -> x.writeFile(number, 4, 1));
            check.noSuch("22: file " + number, () -> x.writeFile(0, number, 1));
            check.outOfRange("22: content " + number, () -> x.writeFile(0, 4, number));
        }
        check.noSuch("22: container 1", () -> x.writeFile(1, 4, 1));
        check.noSuch("22: file 32", () -> x.writeFile(0, 32, 1));
        check.noSuch("22: file before content", () -> x.writeFile(0, 32, 0));
        check.outOfRange("22: content 0", () -> x.writeFile(0, 4, 0));
        check.outOfRange("22: content 1000", () -> x.writeFile(0, 4, 1000));
        x.pause(0);
        check.outOfRange("22: content before state", () -> x.writeFile(0, 4, 0));
        check.refused("22: PAUSED", () -> x.writeFile(0, 4, 1));
        x.stop(0);
        check.refused("22: STOPPED", () -> x.writeFile(0, 4, 1));
        seen("nothing written", x, 0, 4, 104);
    }

    private static void removeFileAnswers() {
        ContainerHost x = hostWithLayers();
        x.run(1, 0, 15, 1);
        x.run(1, 0, 15, 1);
        x.writeFile(0, 20, 7);
        check.equal("23: its own", 7, x.removeFile(0, 20));
        check.equal("23: of a lower layer", 104, x.removeFile(0, 4));
        check.equal("23: of the opaque layer", 209, x.removeFile(0, 9));
        check.equal("23: of the directory 0", 100, x.removeFile(0, 0));
        seen("removed", x, 0, 20, 0);
        seen("removed below", x, 0, 4, 0);
        seen("its neighbour", x, 0, 6, 106);
        seen("another container", x, 1, 4, 104);
        check.equal("23: the image stays", 104, x.shown(1, 4));
        check.refused("23: removed already", () -> x.removeFile(0, 4));
        check.equal("23: written again", 0, x.writeFile(0, 4, 44));
        seen("written again", x, 0, 4, 44);
    }

    private static void removeFileRefuses() {
        ContainerHost x = hostWithLayers();
        x.run(1, 0, 15, 1);
        for (int number : WRONG_NUMBERS) {
            check.noSuch("23: container " + number, () -> x.removeFile(number, 4));
            check.noSuch("23: file " + number, () -> x.removeFile(0, number));
        }
        check.noSuch("23: container 1", () -> x.removeFile(1, 4));
        check.noSuch("23: file 32", () -> x.removeFile(0, 32));
        check.refused("23: a whiteout", () -> x.removeFile(0, 5));
        check.refused("23: below an opaque directory", () -> x.removeFile(0, 8));
        check.refused("23: never written", () -> x.removeFile(0, 30));
        x.commit(0);
        check.equal("23: refused calls leave no entry", 0, x.entries(2, 2));
        x.pause(0);
        check.refused("23: PAUSED", () -> x.removeFile(0, 4));
        check.noSuch("23: file before state", () -> x.removeFile(0, 32));
        x.stop(0);
        check.refused("23: STOPPED", () -> x.removeFile(0, 4));
        seen("still there", x, 0, 4, 104);
    }

    private static void directoryZeroAsksForAdmin() {
        ContainerHost x = hostWithLayers();
        x.run(1, 0, 13, 1);
        x.run(1, 0, 15, 1);
        check.refused("22: the file 0 without ADMIN", () -> x.writeFile(0, 0, 1));
        check.refused("22: the file 3 without ADMIN", () -> x.writeFile(0, 3, 1));
        check.refused("23: the file 0 without ADMIN", () -> x.removeFile(0, 0));
        check.refused("23: the file 3 without ADMIN", () -> x.removeFile(0, 3));
        check.equal("22: the file 4 without ADMIN", 104, x.writeFile(0, 4, 1));
        check.equal("23: the file 4 without ADMIN", 1, x.removeFile(0, 4));
        seen("the directory 0 is seen", x, 0, 0, 100);
        x.lower(1, ContainerHost.ADMIN);
        check.refused("22: ADMIN only permitted", () -> x.writeFile(1, 0, 1));
        x.raise(1, ContainerHost.ADMIN);
        check.equal("22: ADMIN effective again", 100, x.writeFile(1, 0, 1));
    }

    private static void seenInAnyState() {
        ContainerHost x = hostWithLayers();
        x.run(1, 0, 15, 1);
        x.run(0, 0, 0, 1);
        x.writeFile(0, 6, 66);
        x.pause(0);
        seen("PAUSED", x, 0, 6, 66);
        x.stop(0);
        seen("STOPPED, its own", x, 0, 6, 66);
        seen("STOPPED, below", x, 0, 7, 107);
        seen("STOPPED, whiteout", x, 0, 5, 0);
        seen("STOPPED, opaque", x, 0, 10, 0);
        seen("STOPPED, in the opaque layer", x, 0, 9, 209);
        seen("on one layer", x, 1, 10, 110);
        seen("on one layer, never written", x, 1, 31, 0);
    }

    private static void seenRefuses() {
        ContainerHost x = hostWithLayers();
        x.run(1, 0, 15, 1);
        for (int number : WRONG_NUMBERS) {
            check.noSuch("24: container " + number, () -> x.fileOf(number, 0));
            check.noSuch("24: file " + number, () -> x.fileOf(0, number));
            check.noSuch("25: container " + number, () -> x.plainFileOf(number, 0));
            check.noSuch("25: file " + number, () -> x.plainFileOf(0, number));
        }
        check.noSuch("24: container 1", () -> x.fileOf(1, 0));
        check.noSuch("24: file 32", () -> x.fileOf(0, 32));
        check.noSuch("25: container 1", () -> x.plainFileOf(1, 0));
        check.noSuch("25: file 32", () -> x.plainFileOf(0, 32));
    }

    private static void throughNineLayers() {
        ContainerHost x = Hosts.withEightLayers();
        x.run(7, 0, 15, 1);
        for (int file = 0; file < 8; file++) {
            seen("of the layer " + file, x, 0, file, file + 1);
        }
        seen("the top of the image", x, 0, 31, 8);
        seen("in none of the layers", x, 0, 30, 0);
        check.equal("22: above eight layers", 8, x.writeFile(0, 31, 9));
        seen("its own, above eight layers", x, 0, 31, 9);
        check.equal("23: the lowest layer's", 1, x.removeFile(0, 0));
        seen("whited out above eight layers", x, 0, 0, 0);
        check.equal("23: its own", 9, x.removeFile(0, 31));
        seen("whited out, and all below", x, 0, 31, 0);
        check.equal("7: the image stays", 8, x.shown(7, 31));
    }

    private static void leastAndGreatestContents() {
        ContainerHost x = Hosts.withContainers(1);
        check.equal("22: least content", 0, x.writeFile(0, 0, 1));
        check.equal("22: greatest content", 0, x.writeFile(0, 31, 999));
        seen("least content", x, 0, 0, 1);
        seen("greatest content", x, 0, 31, 999);
        check.equal("23: least content", 1, x.removeFile(0, 0));
        check.equal("23: greatest content", 999, x.removeFile(0, 31));
        check.refused("23: an image without files", () -> x.removeFile(0, 16));
        check.equal("22: after the whiteout", 0, x.writeFile(0, 0, 2));
        seen("in place of the whiteout", x, 0, 0, 2);
    }

    private static void theWholeDirectoryZero() {
        ContainerHost x = hostWithLayers();
        x.run(0, 0, 13, 1);
        for (int number = 0; number < 32; number++) {
            int file = number;
            if (file < 4) {
                check.refused("22: file " + file + " without ADMIN", () -> x.writeFile(0, file, 1));
                check.refused("23: file " + file + " without ADMIN", () -> x.removeFile(0, file));
            } else {
                check.equal("22: file " + file, file < 12 ? 100 + file : 0, x.writeFile(0, file, 1));
                check.equal("23: file " + file, 1, x.removeFile(0, file));
            }
        }
        check.outOfRange("22: content before ADMIN", () -> x.writeFile(0, 0, 1000));
        check.noSuch("22: file before ADMIN", () -> x.writeFile(0, -1, 1));
        check.noSuch("23: file before ADMIN", () -> x.removeFile(0, -1));
    }
}

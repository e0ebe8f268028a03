/** Promises 1 to 9: a new object, and images. */
public final class ImagesTest {
    private static final int NONE = ContainerHost.NONE;
    private static final int[] WRONG_NUMBERS = {-2, -1, Integer.MIN_VALUE, Integer.MAX_VALUE};
    private static final Check check = new Check("ImagesTest");

    public static void main(String[] args) {
        newObject();
        newImageNumbers();
        newImageKeepsLayers();
        newImageRefuses();
        writeAnswers();
        writeRefuses();
        removeAnswers();
        removeRefuses();
        clearAnswers();
        clearRefuses();
        sealAnswers();
        shownLooksDown();
        shownRefuses();
        entriesCount();
        entriesRefuses();
        commitCopies();
        commitRefuses();
        everyDirectoryHasItsFourFiles();
        anEmptyDirectoryIsCleared();
        whiteoutsInOpaqueDirectories();
        aLayerFullOfEntries();
        leastAndGreatestContents();
        eightLayers();
        theLowestLayer();
        commitOfAnEmptyLayer();
        commitUpToEightLayers();
        check.finish();
    }

    private static void newObject() {
        ContainerHost x = new ContainerHost();
        check.equal("1: containers", 0, x.containers());
        check.equal("1: memory of the root", 0, x.groupMemory(0));
        check.equal("1: processes of the root", 0, x.groupProcesses(0));
        check.noSuch("1: group 1", () -> x.groupMemory(1));
        check.noSuch("1: image 0", () -> x.shown(0, 0));
        check.noSuch("1: container 0", () -> x.stateOf(0));
        check.noSuch("1: checkpoint 0", () -> x.restore(0, 0));
        check.equal("1: host port", NONE, x.connectHost(0));
        check.equal("1: schedule", 0, x.schedule(10));
    }

    private static void newImageNumbers() {
        ContainerHost x = new ContainerHost();
        for (int i = 0; i < 10; i++) {
            check.equal("2: newImage", i, x.newImage(NONE));
        }
        check.refused("2: an 11th image", () -> x.newImage(NONE));
        check.noSuch("2: no image 10 with 10 images", () -> x.newImage(10));
        x.seal(0);
        check.refused("2: an 11th image on a base", () -> x.newImage(0));
    }

    private static void newImageKeepsLayers() {
        ContainerHost x = new ContainerHost();
        int base = x.newImage(NONE);
        x.write(base, 5, 50);
        x.seal(base);
        int above = x.newImage(base);
        int beside = x.newImage(base);
        check.equal("2: the base is shown", 50, x.shown(above, 5));
        check.equal("2: the layer above is empty", 0, x.entries(above, 1));
        check.equal("2: the layer below", 1, x.entries(above, 0));
        x.write(above, 5, 51);
        check.equal("2: the base stays", 50, x.shown(base, 5));
        check.equal("2: the image beside stays", 50, x.shown(beside, 5));
        check.equal("2: the new image is open", 2, x.seal(above));
        check.equal("2: no base, nothing shown", 0, x.shown(x.newImage(NONE), 5));
    }

    private static void newImageRefuses() {
        ContainerHost x = new ContainerHost();
        check.noSuch("2: no image 0", () -> x.newImage(0));
        check.noSuch("2: base -2", () -> x.newImage(-2));
        check.noSuch("2: least base", () -> x.newImage(Integer.MIN_VALUE));
        check.noSuch("2: greatest base", () -> x.newImage(Integer.MAX_VALUE));
        x.newImage(NONE);
        check.refused("2: open base", () -> x.newImage(0));
        for (int layers = 1; layers < 8; layers++) {
            x.seal(layers - 1);
            check.equal("2: a row grows", layers, x.newImage(layers - 1));
        }
        check.equal("2: eight layers", 8, x.seal(7));
        check.refused("2: base with 8 layers", () -> x.newImage(7));
        check.equal("2: refused calls make nothing", 8, x.newImage(6));
    }

    private static void writeAnswers() {
        ContainerHost x = new ContainerHost();
        x.newImage(NONE);
        check.equal("3: first write", 0, x.write(0, 0, 1));
        check.equal("3: second write", 1, x.write(0, 0, 999));
        check.equal("3: third write", 999, x.write(0, 0, 3));
        check.equal("3: last file", 0, x.write(0, 31, 7));
        check.equal("3: one entry a file", 2, x.entries(0, 0));
        x.remove(0, 0);
        check.equal("3: over a whiteout", 0, x.write(0, 0, 4));
        check.equal("3: in place of the whiteout", 2, x.entries(0, 0));
        check.equal("3: shown", 4, x.shown(0, 0));
        x.seal(0);
        x.newImage(0);
        check.equal("3: over a lower layer", 7, x.write(1, 31, 8));
    }

    private static void writeRefuses() {
        ContainerHost x = new ContainerHost();
        x.newImage(NONE);
        for (int number : WRONG_NUMBERS) {
            check.noSuch("3: image " + number, () -> x.write(number, 0, 1));
            check.noSuch("3: file " + number, () -> x.write(0, number, 1));
        }
        check.noSuch("3: image 1", () -> x.write(1, 0, 1));
        check.noSuch("3: file 32", () -> x.write(0, 32, 1));
        check.noSuch("3: file before content", () -> x.write(0, 32, 0));
        check.outOfRange("3: content 0", () -> x.write(0, 0, 0));
        check.outOfRange("3: content 1000", () -> x.write(0, 0, 1000));
        check.outOfRange("3: least content", () -> x.write(0, 0, Integer.MIN_VALUE));
        check.outOfRange("3: greatest content", () -> x.write(0, 0, Integer.MAX_VALUE));
        x.seal(0);
        check.outOfRange("3: content before sealed", () -> x.write(0, 0, 1000));
        check.refused("3: sealed", () -> x.write(0, 0, 1));
        check.equal("3: nothing was written", 0, x.entries(0, 0));
    }

    private static void removeAnswers() {
        ContainerHost x = new ContainerHost();
        x.newImage(NONE);
        x.write(0, 9, 90);
        x.write(0, 10, 100);
        check.equal("4: remove", 90, x.remove(0, 9));
        check.equal("4: nothing shown", 0, x.shown(0, 9));
        check.equal("4: a whiteout in place of the content", 2, x.entries(0, 0));
        x.seal(0);
        x.newImage(0);
        check.equal("4: remove from below", 100, x.remove(1, 10));
        check.equal("4: the layer below stays", 100, x.shown(0, 10));
        check.equal("4: a whiteout above", 1, x.entries(1, 1));
        check.equal("4: hidden", 0, x.shown(1, 10));
    }

    private static void removeRefuses() {
        ContainerHost x = new ContainerHost();
        x.newImage(NONE);
        for (int number : WRONG_NUMBERS) {
            check.noSuch("4: image " + number, () -> x.remove(number, 0));
            check.noSuch("4: file " + number, () -> x.remove(0, number));
        }
        check.noSuch("4: image 1", () -> x.remove(1, 0));
        check.noSuch("4: file 32", () -> x.remove(0, 32));
        check.refused("4: nothing shown", () -> x.remove(0, 0));
        check.equal("4: no whiteout is left", 0, x.entries(0, 0));
        x.write(0, 0, 5);
        x.remove(0, 0);
        check.refused("4: removed already", () -> x.remove(0, 0));
        x.write(0, 0, 6);
        x.seal(0);
        check.refused("4: sealed", () -> x.remove(0, 0));
        check.noSuch("4: file before sealed", () -> x.remove(0, 32));
        check.equal("4: still shown", 6, x.shown(0, 0));
    }

    private static void clearAnswers() {
        ContainerHost x = new ContainerHost();
        x.newImage(NONE);
        for (int file = 0; file < 32; file++) {
            x.write(0, file, file + 1);
        }
        x.remove(0, 29);
        check.equal("5: files of the last directory", 3, x.clear(0, 7));
        check.equal("5: contents and whiteouts go", 29, x.entries(0, 0));
        check.equal("5: nothing before", 0, x.clear(0, 7));
        check.equal("5: opaque counts once", 29, x.entries(0, 0));
        check.equal("5: its neighbour stays", 28, x.shown(0, 27));
        check.equal("5: written into an opaque directory", 0, x.write(0, 28, 5));
        check.equal("5: shown there", 5, x.shown(0, 28));
        check.equal("5: the directory 0", 4, x.clear(0, 0));
        check.equal("5: gone", 0, x.shown(0, 0) + x.shown(0, 3));
        check.equal("5: the next one stays", 5, x.shown(0, 4));
        x.seal(0);
        x.newImage(0);
        x.write(1, 4, 9);
        check.equal("5: through two layers", 4, x.clear(1, 1));
        check.equal("5: hidden", 0, x.shown(1, 4) + x.shown(1, 5));
        check.equal("5: below it stays", 6, x.shown(0, 5));
        check.equal("5: one entry", 1, x.entries(1, 1));
    }

    private static void clearRefuses() {
        ContainerHost x = new ContainerHost();
        x.newImage(NONE);
        for (int number : WRONG_NUMBERS) {
            check.noSuch("5: image " + number, () -> x.clear(number, 0));
            check.noSuch("5: directory " + number, () -> x.clear(0, number));
        }
        check.noSuch("5: image 1", () -> x.clear(1, 0));
        check.noSuch("5: directory 8", () -> x.clear(0, 8));
        x.seal(0);
        check.noSuch("5: directory before sealed", () -> x.clear(0, 8));
        check.refused("5: sealed", () -> x.clear(0, 0));
        check.equal("5: not opaque", 0, x.entries(0, 0));
    }

    private static void sealAnswers() {
        ContainerHost x = new ContainerHost();
        for (int number : WRONG_NUMBERS) {
            check.noSuch("6: image " + number, () -> x.seal(number));
        }
        check.noSuch("6: image 0", () -> x.seal(0));
        x.newImage(NONE);
        check.equal("6: one layer", 1, x.seal(0));
        check.refused("6: sealed already", () -> x.seal(0));
        x.newImage(0);
        check.equal("6: two layers", 2, x.seal(1));
        check.refused("6: the second is sealed", () -> x.write(1, 0, 1));
    }

    private static void shownLooksDown() {
        ContainerHost x = new ContainerHost();
        x.newImage(NONE);
        for (int file = 0; file < 8; file++) {
            x.write(0, file, 10 + file);
        }
        x.seal(0);
        x.newImage(0);
        x.clear(1, 0);
        x.write(1, 1, 21);
        x.seal(1);
        x.newImage(1);
        x.write(2, 2, 32);
        x.remove(2, 4);
        check.equal("7: below an opaque directory", 0, x.shown(2, 0));
        check.equal("7: in the opaque layer", 21, x.shown(2, 1));
        check.equal("7: above the opaque layer", 32, x.shown(2, 2));
        check.equal("7: whiteout", 0, x.shown(2, 4));
        check.equal("7: through all layers", 15, x.shown(2, 5));
        check.equal("7: never written", 0, x.shown(2, 8));
        check.equal("7: each image of its own", 10, x.shown(0, 0));
    }

    private static void shownRefuses() {
        ContainerHost x = new ContainerHost();
        x.newImage(NONE);
        for (int number : WRONG_NUMBERS) {
            check.noSuch("7: image " + number, () -> x.shown(number, 0));
            check.noSuch("7: file " + number, () -> x.shown(0, number));
        }
        check.noSuch("7: image 1", () -> x.shown(1, 0));
        check.noSuch("7: file 32", () -> x.shown(0, 32));
        check.equal("7: file 31", 0, x.shown(0, 31));
    }

    private static void entriesCount() {
        ContainerHost x = new ContainerHost();
        x.newImage(NONE);
        check.equal("8: empty", 0, x.entries(0, 0));
        x.write(0, 0, 1);
        x.write(0, 31, 1);
        check.equal("8: contents", 2, x.entries(0, 0));
        x.seal(0);
        x.newImage(0);
        x.remove(1, 0);
        x.write(1, 12, 1);
        x.clear(1, 1);
        x.clear(1, 7);
        check.equal("8: of all kinds", 4, x.entries(1, 1));
        check.equal("8: the layer below alone", 2, x.entries(1, 0));
    }

    private static void entriesRefuses() {
        ContainerHost x = new ContainerHost();
        x.newImage(NONE);
        for (int number : WRONG_NUMBERS) {
            check.noSuch("8: image " + number, () -> x.entries(number, 0));
            check.noSuch("8: layer " + number, () -> x.entries(0, number));
        }
        check.noSuch("8: image 1", () -> x.entries(1, 0));
        check.noSuch("8: layer 1 of one", () -> x.entries(0, 1));
        x.seal(0);
        x.newImage(0);
        check.noSuch("8: layer 2 of two", () -> x.entries(1, 2));
        check.noSuch("8: the base has still one", () -> x.entries(0, 1));
    }

    private static void commitCopies() {
        ContainerHost x = new ContainerHost();
        x.newImage(NONE);
        x.write(0, 4, 40);
        x.write(0, 5, 50);
        x.seal(0);
        x.run(0, 0, 15, 1);
        x.writeFile(0, 6, 60);
        x.removeFile(0, 5);
        check.equal("9: commit", 1, x.commit(0));
        check.equal("9: of its image", 40, x.shown(1, 4));
        check.equal("9: whiteout of its own", 0, x.shown(1, 5));
        check.equal("9: content of its own", 60, x.shown(1, 6));
        check.equal("9: its own layer", 2, x.entries(1, 1));
        check.noSuch("9: two layers", () -> x.entries(1, 2));
        check.refused("9: sealed", () -> x.seal(1));
        x.writeFile(0, 6, 61);
        check.equal("9: a copy", 60, x.shown(1, 6));
        check.equal("9: the image stays", 50, x.shown(0, 5));
        x.pause(0);
        check.equal("9: paused", 2, x.commit(0));
        x.stop(0);
        check.equal("9: stopped", 3, x.commit(0));
        check.equal("9: later layer", 61, x.shown(3, 6));
        check.equal("9: runs on it", 1, x.run(1, 0, 0, 1));
        check.equal("9: seen on it", 60, x.fileOf(1, 6));
    }

    private static void commitRefuses() {
        ContainerHost x = new ContainerHost();
        for (int number : WRONG_NUMBERS) {
            check.noSuch("9: container " + number, () -> x.commit(number));
        }
        check.noSuch("9: container 0", () -> x.commit(0));
        x.newImage(NONE);
        x.seal(0);
        for (int layers = 1; layers < 8; layers++) {
            x.run(layers - 1, 0, 0, 1);
            check.equal("9: a row grows", layers, x.commit(layers - 1));
        }
        x.run(7, 0, 0, 1);
        check.refused("9: 8 layers", () -> x.commit(7));
        check.equal("9: a 9th image", 8, x.commit(0));
        check.equal("9: a 10th image", 9, x.commit(6));
        check.noSuch("9: eight layers at most", () -> x.entries(9, 8));
        check.refused("9: an 11th image", () -> x.commit(0));
        check.noSuch("9: container 8", () -> x.commit(8));
    }

    private static void everyDirectoryHasItsFourFiles() {
        for (int directory = 0; directory < 8; directory++) {
            ContainerHost x = new ContainerHost();
            x.newImage(NONE);
            for (int file = 0; file < 32; file++) {
                x.write(0, file, file + 1);
            }
            x.seal(0);
            x.newImage(0);
            check.equal("5: the four files of " + directory, 4, x.clear(1, directory));
            for (int file = 0; file < 32; file++) {
                int due = file / 4 == directory ? 0 : file + 1;
                check.equal("7: file " + file + " with opaque " + directory, due, x.shown(1, file));
            }
        }
    }

    private static void anEmptyDirectoryIsCleared() {
        ContainerHost x = new ContainerHost();
        x.newImage(NONE);
        check.equal("5: nothing was shown", 0, x.clear(0, 0));
        check.equal("5: it is opaque all the same", 1, x.entries(0, 0));
        check.equal("5: the last directory", 0, x.clear(0, 7));
        check.equal("5: both are", 2, x.entries(0, 0));
        x.write(0, 0, 1);
        check.equal("5: one file", 1, x.clear(0, 0));
        check.equal("5: still two entries", 2, x.entries(0, 0));
    }

    private static void whiteoutsInOpaqueDirectories() {
        ContainerHost x = new ContainerHost();
        x.newImage(NONE);
        x.write(0, 12, 5);
        x.write(0, 13, 6);
        x.seal(0);
        x.newImage(0);
        x.remove(1, 12);
        check.equal("5: one is whited out already", 1, x.clear(1, 3));
        check.equal("5: its whiteout is taken out", 1, x.entries(1, 1));
        check.refused("4: nothing is shown in an opaque directory", () -> x.remove(1, 13));
        x.write(1, 13, 7);
        check.equal("4: a content in an opaque directory", 7, x.remove(1, 13));
        check.equal("7: a whiteout in an opaque directory", 0, x.shown(1, 13));
        check.equal("8: both are entries", 2, x.entries(1, 1));
        check.equal("3: in place of the whiteout", 0, x.write(1, 13, 8));
        check.equal("8: still two entries", 2, x.entries(1, 1));
        check.equal("7: the layer below stays", 6, x.shown(0, 13));
    }

    private static void aLayerFullOfEntries() {
        ContainerHost x = new ContainerHost();
        x.newImage(NONE);
        for (int directory = 0; directory < 8; directory++) {
            x.clear(0, directory);
        }
        check.equal("8: opaque directories alone", 8, x.entries(0, 0));
        for (int file = 0; file < 32; file++) {
            x.write(0, file, 999);
        }
        check.equal("8: as many as a layer can have", 40, x.entries(0, 0));
        for (int file = 0; file < 32; file++) {
            x.remove(0, file);
        }
        check.equal("8: whiteouts in place of all contents", 40, x.entries(0, 0));
        for (int directory = 0; directory < 8; directory++) {
            x.clear(0, directory);
        }
        check.equal("8: no whiteout is left", 8, x.entries(0, 0));
    }

    private static void leastAndGreatestContents() {
        ContainerHost x = new ContainerHost();
        x.newImage(NONE);
        check.equal("3: least content", 0, x.write(0, 30, 1));
        check.equal("3: greatest content", 0, x.write(0, 31, 999));
        check.equal("7: least content", 1, x.shown(0, 30));
        check.equal("7: greatest content", 999, x.shown(0, 31));
        check.equal("4: least content", 1, x.remove(0, 30));
        check.equal("4: greatest content", 999, x.remove(0, 31));
    }

    private static void eightLayers() {
        ContainerHost x = Hosts.withEightLayers();
        for (int layer = 0; layer < 8; layer++) {
            check.equal("7: from the layer " + layer, layer + 1, x.shown(7, layer));
            check.equal("8: of the layer " + layer, 2, x.entries(7, layer));
            check.equal("7: the top of the image " + layer, layer + 1, x.shown(layer, 31));
        }
        check.equal("7: through all eight, nothing", 0, x.shown(7, 30));
        check.noSuch("8: no layer 8", () -> x.entries(7, 8));
        check.noSuch("8: no layer -1", () -> x.entries(7, -1));
        check.refused("2: no ninth layer", () -> x.newImage(7));
        check.equal("2: one on seven layers", 8, x.newImage(6));
        check.equal("6: eight layers", 8, x.seal(8));
    }

    private static void theLowestLayer() {
        ContainerHost x = new ContainerHost();
        x.newImage(NONE);
        x.clear(0, 0);
        x.write(0, 4, 1);
        x.remove(0, 4);
        check.equal("7: nothing below an opaque lowest layer", 0, x.shown(0, 0));
        check.equal("7: nothing below a whiteout of the lowest layer", 0, x.shown(0, 4));
        check.equal("7: nothing below an untouched lowest layer", 0, x.shown(0, 8));
    }

    private static void commitOfAnEmptyLayer() {
        ContainerHost x = Hosts.withContainers(1);
        check.equal("9: nothing was changed", 1, x.commit(0));
        check.equal("9: an empty layer", 0, x.entries(1, 1));
        check.noSuch("9: and one below it", () -> x.entries(1, 2));
        check.refused("9: it is sealed", () -> x.write(1, 0, 1));
        check.equal("9: so it is a base", 2, x.newImage(1));
        check.equal("9: of three layers then", 3, x.seal(2));
    }

    private static void commitUpToEightLayers() {
        ContainerHost x = Hosts.withEightLayers();
        x.run(6, 0, 15, 1);
        x.run(7, 0, 15, 1);
        x.writeFile(0, 31, 500);
        check.equal("9: on seven layers", 8, x.commit(0));
        check.equal("9: eight layers then", 1, x.entries(8, 7));
        check.equal("9: its own layer is the top", 500, x.shown(8, 31));
        check.equal("9: the lowest is shown", 1, x.shown(8, 0));
        check.refused("9: on eight layers", () -> x.commit(1));
        x.stop(1);
        check.refused("9: on eight layers, STOPPED", () -> x.commit(1));
        check.equal("9: a tenth image", 9, x.commit(0));
        check.refused("9: no 11th image", () -> x.commit(0));
        check.refused("9: neither for it nor on eight layers", () -> x.commit(1));
    }
}

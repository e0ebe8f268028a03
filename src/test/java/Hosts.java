/** Hosts with which tests begin. */
final class Hosts {
    private Hosts() {
    }

    /** The image 0 is sealed and empty. */
    static ContainerHost withImage() {
        ContainerHost x = new ContainerHost();
        x.newImage(ContainerHost.NONE);
        x.seal(0);
        return x;
    }

    /** Containers with all capabilities run on the image 0 in the root. */
    static ContainerHost withContainers(int number) {
        ContainerHost x = withImage();
        for (int i = 0; i < number; i++) {
            x.run(0, 0, 15, 1);
        }
        return x;
    }

    /** The image 7 has eight layers; in layer i the file i, and the file 31, have the content i + 1. */
    static ContainerHost withEightLayers() {
        ContainerHost x = new ContainerHost();
        for (int image = 0; image < 8; image++) {
            x.newImage(image - 1);
            x.write(image, image, image + 1);
            x.write(image, 31, image + 1);
            x.seal(image);
        }
        return x;
    }
}

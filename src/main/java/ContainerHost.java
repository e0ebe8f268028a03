import java.util.ArrayList;

/**
 * A container runtime on one host: images of layers, containers in a tree of groups,
 * capabilities, bridges and checkpoints. The document's promises say what each call does.
 */
public final class ContainerHost {
    public static final int NONE = -1;
    public static final int RUNNING = 0, PAUSED = 1, STOPPED = 2;
    public static final int BIND = 0, ADMIN = 1, ATTACH = 2, KILL = 3;

    private static final int DIRECTORIES = 8;
    private static final int FILES_PER_DIRECTORY = 4;
    private static final int FILES = DIRECTORIES * FILES_PER_DIRECTORY;
    private static final int MAX_CONTENT = 999;
    private static final int MAX_LAYERS = 8;
    private static final int MAX_IMAGES = 10;

    private static final int MAX_GROUPS = 8;
    private static final int MAX_MEMORY = 10000;
    private static final int MAX_PROCESSES = 100;
    private static final int MAX_SHARES = 100;

    private static final int MAX_CONTAINERS = 20;
    private static final int MAX_CHECKPOINTS = 5;
    private static final int MAX_MEMORY_STEP = 5000;
    private static final int MAX_TIME = 10000;

    private static final int CAPABILITIES = 4;
    private static final int ALL_CAPABILITIES = (1 << CAPABILITIES) - 1;

    private static final int BRIDGES = 4;
    private static final int ADDRESSES = 6;
    private static final int PORTS = 16;
    private static final int BOUND_PORTS = 4;
    private static final int HOST_PORTS = 32;

    /** What a layer holds for a file that it neither gives a content nor whites out. */
    private static final int UNTOUCHED = 0;
    private static final int WHITEOUT = -1;
    /** The content that is answered where no file is seen. */
    private static final int NOTHING = 0;

    private final ArrayList<Image> imageList = new ArrayList<>();
    private final ArrayList<Group> groupList = new ArrayList<>();
    private final ArrayList<Container> containerList = new ArrayList<>();
    private final ArrayList<Checkpoint> checkpointList = new ArrayList<>();

    /** The container that each port of the host leads to; null where none is published. */
    private final Container[] publishedOn = new Container[HOST_PORTS];

    /** Rows of schedule, kept so that no call makes them anew. */
    private final ArrayList<Part> parts = new ArrayList<>();
    private final int[] remainders = new int[MAX_GROUPS + MAX_CONTAINERS];

    public ContainerHost() {
        // The root is never a part of another group, so its shares are never asked for.
        groupList.add(new Group(null, MAX_MEMORY, MAX_PROCESSES, 1));
    }

    // ---- images

    public int newImage(int base) throws IndexOutOfBoundsException, IllegalStateException {
        Layer below = base == NONE ? null : baseLayer(imageAt(base));
        requireImageSlot();
        return addImage(new Layer(below), false);
    }

    public int write(int image, int file, int content)
            throws IndexOutOfBoundsException, IllegalArgumentException, IllegalStateException {
        Image target = imageAt(image);
        requireFile(file);
        requireWithin(content, MAX_CONTENT);
        requireOpen(target);
        int before = target.top.fileSeen(file);
        target.top.files[file] = content;
        return before;
    }

    public int remove(int image, int file) throws IndexOutOfBoundsException, IllegalStateException {
        Image target = imageAt(image);
        requireFile(file);
        requireOpen(target);
        return whiteOut(target.top, file);
    }

    public int clear(int image, int directory) throws IndexOutOfBoundsException, IllegalStateException {
        Image target = imageAt(image);
        if (directory < 0 || directory >= DIRECTORIES) {
            throw new IndexOutOfBoundsException("no such directory");
        }
        requireOpen(target);
        int before = target.top.filesSeenIn(directory);
        target.top.makeOpaque(directory);
        return before;
    }

    public int seal(int image) throws IndexOutOfBoundsException, IllegalStateException {
        Image target = imageAt(image);
        requireOpen(target);
        target.sealed = true;
        return target.top.height;
    }

    public int shown(int image, int file) throws IndexOutOfBoundsException {
        Image target = imageAt(image);
        requireFile(file);
        return target.top.fileSeen(file);
    }

    public int entries(int image, int layer) throws IndexOutOfBoundsException {
        Layer top = imageAt(image).top;
        if (layer < 0 || layer >= top.height) {
            throw new IndexOutOfBoundsException("no such layer");
        }
        Layer asked = top.atHeight(layer + 1);
        return asked == null ? 0 : asked.countEntries();
    }

    public int commit(int container) throws IndexOutOfBoundsException, IllegalStateException {
        Layer own = containerAt(container).own;
        // The container's own layer stands on those of its image.
        if (own.height > MAX_LAYERS) {
            throw new IllegalStateException("the image has no room for a layer");
        }
        requireImageSlot();
        return addImage(own.copied(), true);
    }

    // ---- groups

    public int newGroup(int parent, int memory, int processes, int shares)
            throws IndexOutOfBoundsException, IllegalArgumentException, IllegalStateException {
        Group above = groupAt(parent);
        requireWithin(memory, MAX_MEMORY);
        requireWithin(processes, MAX_PROCESSES);
        requireWithin(shares, MAX_SHARES);
        if (groupList.size() >= MAX_GROUPS) {
            throw new IllegalStateException("there are as many groups as can be");
        }
        groupList.add(new Group(above, memory, processes, shares));
        return groupList.size() - 1;
    }

    public int groupMemory(int group) throws IndexOutOfBoundsException {
        return groupAt(group).memory;
    }

    public int groupProcesses(int group) throws IndexOutOfBoundsException {
        return groupAt(group).processes;
    }

    // ---- containers

    public int run(int image, int group, int capabilities, int shares)
            throws IndexOutOfBoundsException, IllegalArgumentException, IllegalStateException {
        Image base = imageAt(image);
        Group home = groupAt(group);
        if (capabilities < 0 || capabilities > ALL_CAPABILITIES) {
            throw new IllegalArgumentException("not a set of capabilities");
        }
        requireWithin(shares, MAX_SHARES);
        if (!base.sealed) {
            throw new IllegalStateException("the image is open");
        }
        requireContainerSlot();
        requireRoom(home, 0, 1);
        Container made = addContainer(home, new Layer(base.top), shares);
        made.permitted = capabilities;
        made.effective = capabilities;
        made.charge(0, 1);
        return made.number;
    }

    public void pause(int container) throws IndexOutOfBoundsException, IllegalStateException {
        runningAt(container).state = PAUSED;
    }

    public void resume(int container) throws IndexOutOfBoundsException, IllegalStateException {
        pausedAt(container).state = RUNNING;
    }

    public int stop(int container) throws IndexOutOfBoundsException, IllegalStateException {
        Container target = containerAt(container);
        if (target.state == STOPPED) {
            throw new IllegalStateException("the container is stopped");
        }
        return halt(target);
    }

    public int allocate(int container, int units)
            throws IndexOutOfBoundsException, IllegalArgumentException, IllegalStateException {
        Container target = containerAt(container);
        requireWithin(units, MAX_MEMORY_STEP);
        requireRunning(target);
        killUntilFits(target, units);
        if (target.state == STOPPED) {
            return NONE;
        }
        target.charge(units, 0);
        return target.memory;
    }

    public int free(int container, int units)
            throws IndexOutOfBoundsException, IllegalArgumentException, IllegalStateException {
        Container target = containerAt(container);
        requireWithin(units, MAX_MEMORY_STEP);
        requireRunning(target);
        if (target.memory < units) {
            throw new IllegalStateException("the container has less memory");
        }
        target.charge(-units, 0);
        return target.memory;
    }

    public int fork(int container) throws IndexOutOfBoundsException, IllegalStateException {
        Container target = runningAt(container);
        requireRoom(target.group, 0, 1);
        target.charge(0, 1);
        return target.processes;
    }

    public int exit(int container) throws IndexOutOfBoundsException, IllegalStateException {
        Container target = runningAt(container);
        if (target.processes > 1) {
            target.charge(0, -1);
        } else {
            halt(target);
        }
        return target.processes;
    }

    public int schedule(int units) throws IllegalArgumentException {
        requireWithin(units, MAX_TIME);
        Group root = groupAt(0);
        if (!hasRunning(root)) {
            return 0;
        }
        root.granted = units;
        // A parent has a lesser number than its groups, so it has got its units before it shares them.
        for (int i = 0; i < groupList.size(); i++) {
            shareOut(groupList.get(i));
        }
        // Only groups with a RUNNING container in or below are parts: all units end up in containers.
        return units;
    }

    // ---- files of containers

    public int writeFile(int container, int file, int content)
            throws IndexOutOfBoundsException, IllegalArgumentException, IllegalStateException {
        Container target = containerAt(container);
        requireFile(file);
        requireWithin(content, MAX_CONTENT);
        requireMayChange(target, file);
        int before = target.own.fileSeen(file);
        target.own.files[file] = content;
        return before;
    }

    public int removeFile(int container, int file) throws IndexOutOfBoundsException, IllegalStateException {
        Container target = containerAt(container);
        requireFile(file);
        requireMayChange(target, file);
        return whiteOut(target.own, file);
    }

    public int fileOf(int container, int file) throws IndexOutOfBoundsException {
        Container target = containerAt(container);
        requireFile(file);
        return target.own.fileSeen(file);
    }

    public int plainFileOf(int container, int file) throws IndexOutOfBoundsException {
        Container target = containerAt(container);
        requireFile(file);
        return target.own.fileBuiltUp(file);
    }

    // ---- capabilities

    public int raise(int container, int capability) throws IndexOutOfBoundsException, IllegalStateException {
        Container target = containerAt(container);
        requireCapability(capability);
        requireRunning(target);
        int bit = 1 << capability;
        if ((target.permitted & bit) == 0) {
            throw new IllegalStateException("the capability is not permitted");
        }
        target.effective |= bit;
        return target.effective;
    }

    public int lower(int container, int capability) throws IndexOutOfBoundsException, IllegalStateException {
        Container target = containerAt(container);
        requireCapability(capability);
        requireRunning(target);
        target.effective &= ~(1 << capability);
        return target.effective;
    }

    public int drop(int container, int capability) throws IndexOutOfBoundsException, IllegalStateException {
        Container target = containerAt(container);
        requireCapability(capability);
        requireRunning(target);
        target.effective &= ~(1 << capability);
        target.permitted &= ~(1 << capability);
        return target.permitted;
    }

    public int kill(int container, int victim) throws IndexOutOfBoundsException, IllegalStateException {
        Container killer = containerAt(container);
        Container target = containerAt(victim);
        requireRunning(killer);
        requireEffective(killer, KILL);
        if (target == killer || target.state == STOPPED) {
            throw new IllegalStateException("the victim is the container itself or stopped");
        }
        if (!target.group.isWithin(killer.group)) {
            throw new IllegalStateException("the victim is out of the group");
        }
        return halt(target);
    }

    // ---- networks

    public int attach(int container, int bridge) throws IndexOutOfBoundsException, IllegalStateException {
        Container target = containerAt(container);
        if (bridge < 0 || bridge >= BRIDGES) {
            throw new IndexOutOfBoundsException("no such bridge");
        }
        requireRunning(target);
        requireEffective(target, ATTACH);
        int address = leastFreeAddress(bridge);
        if (target.bridge != NONE || address == NONE) {
            throw new IllegalStateException("the container is attached or no address is free");
        }
        target.bridge = bridge;
        target.address = address;
        return address;
    }

    public int detach(int container) throws IndexOutOfBoundsException, IllegalStateException {
        Container target = runningAt(container);
        requireAttached(target);
        int bridge = target.bridge;
        target.leaveBridge();
        return bridge;
    }

    public int listen(int container, int port) throws IndexOutOfBoundsException, IllegalStateException {
        Container target = containerAt(container);
        requirePort(port);
        requireRunning(target);
        if (target.listensOn(port)) {
            throw new IllegalStateException("the container listens on the port");
        }
        if (port < BOUND_PORTS) {
            requireEffective(target, BIND);
        }
        target.ports |= 1 << port;
        return Integer.bitCount(target.ports);
    }

    public int publish(int container, int port, int hostPort)
            throws IndexOutOfBoundsException, IllegalStateException {
        Container target = containerAt(container);
        requirePort(port);
        requireHostPort(hostPort);
        if (!target.listensOn(port)) {
            throw new IllegalStateException("the container does not listen on the port");
        }
        if (publishedOn[hostPort] != null) {
            throw new IllegalStateException("the port of the host is published");
        }
        publishedOn[hostPort] = target;
        return countPublished();
    }

    public int connect(int container, int address, int port)
            throws IndexOutOfBoundsException, IllegalArgumentException, IllegalStateException {
        Container from = containerAt(container);
        requirePort(port);
        requireWithin(address, ADDRESSES);
        requireRunning(from);
        requireAttached(from);
        Container reached = attachedAt(from.bridge, address);
        if (reached == null || reached.state != RUNNING || !reached.listensOn(port)) {
            return NONE;
        }
        return reached.number;
    }

    public int connectHost(int hostPort) throws IndexOutOfBoundsException {
        requireHostPort(hostPort);
        Container reached = publishedOn[hostPort];
        return reached != null && reached.state == RUNNING ? reached.number : NONE;
    }

    // ---- checkpoints

    public int save(int container) throws IndexOutOfBoundsException, IllegalStateException {
        Container target = pausedAt(container);
        if (checkpointList.size() >= MAX_CHECKPOINTS) {
            throw new IllegalStateException("there are as many checkpoints as can be");
        }
        checkpointList.add(new Checkpoint(target));
        return checkpointList.size() - 1;
    }

    public int restore(int checkpoint, int group) throws IndexOutOfBoundsException, IllegalStateException {
        if (checkpoint < 0 || checkpoint >= checkpointList.size()) {
            throw new IndexOutOfBoundsException("no such checkpoint");
        }
        Checkpoint saved = checkpointList.get(checkpoint);
        Group home = groupAt(group);
        requireContainerSlot();
        requireRoom(home, saved.memory, saved.processes);
        Container made = addContainer(home, saved.own.copied(), saved.shares);
        made.permitted = saved.permitted;
        made.effective = saved.effective;
        made.ports = saved.ports;
        made.charge(saved.memory, saved.processes);
        return made.number;
    }

    // ---- containers as they are

    public int containers() {
        return containerList.size();
    }

    public int stateOf(int container) throws IndexOutOfBoundsException {
        return containerAt(container).state;
    }

    public int memoryOf(int container) throws IndexOutOfBoundsException {
        return containerAt(container).memory;
    }

    public int timeOf(int container) throws IndexOutOfBoundsException {
        return containerAt(container).time;
    }

    public int capabilitiesOf(int container) throws IndexOutOfBoundsException {
        Container target = containerAt(container);
        return 16 * target.permitted + target.effective;
    }

    public int addressOf(int container) throws IndexOutOfBoundsException {
        Container target = containerAt(container);
        return target.bridge == NONE ? NONE : 10 * target.bridge + target.address;
    }

    // ---- what the calls ask for before they change anything

    private Image imageAt(int number) {
        if (number < 0 || number >= imageList.size()) {
            throw new IndexOutOfBoundsException("no such image");
        }
        return imageList.get(number);
    }

    private Group groupAt(int number) {
        if (number < 0 || number >= groupList.size()) {
            throw new IndexOutOfBoundsException("no such group");
        }
        return groupList.get(number);
    }

    private Container containerAt(int number) {
        if (number < 0 || number >= containerList.size()) {
            throw new IndexOutOfBoundsException("no such container");
        }
        return containerList.get(number);
    }

    private Container runningAt(int number) {
        Container container = containerAt(number);
        requireRunning(container);
        return container;
    }

    private Container pausedAt(int number) {
        Container container = containerAt(number);
        if (container.state != PAUSED) {
            throw new IllegalStateException("the container is not paused");
        }
        return container;
    }

    private static void requireFile(int file) {
        if (file < 0 || file >= FILES) {
            throw new IndexOutOfBoundsException("no such file");
        }
    }

    private static void requireCapability(int capability) {
        if (capability < 0 || capability >= CAPABILITIES) {
            throw new IndexOutOfBoundsException("no such capability");
        }
    }

    private static void requirePort(int port) {
        if (port < 0 || port >= PORTS) {
            throw new IndexOutOfBoundsException("no such port");
        }
    }

    private static void requireHostPort(int hostPort) {
        if (hostPort < 0 || hostPort >= HOST_PORTS) {
            throw new IndexOutOfBoundsException("no such port of the host");
        }
    }

    private static void requireWithin(int value, int most) {
        if (value < 1 || value > most) {
            throw new IllegalArgumentException("out of range");
        }
    }

    private static void requireOpen(Image image) {
        if (image.sealed) {
            throw new IllegalStateException("the image is sealed");
        }
    }

    private void requireImageSlot() {
        if (imageList.size() >= MAX_IMAGES) {
            throw new IllegalStateException("there are as many images as can be");
        }
    }

    private void requireContainerSlot() {
        if (containerList.size() >= MAX_CONTAINERS) {
            throw new IllegalStateException("there are as many containers as can be");
        }
    }

    private static void requireRoom(Group group, int memory, int processes) {
        if (!group.hasRoom(memory, processes)) {
            throw new IllegalStateException("a group is at its limit");
        }
    }

    private static void requireRunning(Container container) {
        if (container.state != RUNNING) {
            throw new IllegalStateException("the container is not running");
        }
    }

    private static void requireEffective(Container container, int capability) {
        if ((container.effective & (1 << capability)) == 0) {
            throw new IllegalStateException("the capability is not effective");
        }
    }

    private static void requireMayChange(Container container, int file) {
        requireRunning(container);
        if (file < FILES_PER_DIRECTORY) {
            requireEffective(container, ADMIN);
        }
    }

    private static void requireAttached(Container container) {
        if (container.bridge == NONE) {
            throw new IllegalStateException("the container is not attached");
        }
    }

    // ---- the steps of the calls

    private static Layer baseLayer(Image base) {
        if (!base.sealed || base.top.height >= MAX_LAYERS) {
            throw new IllegalStateException("the base is open or has no room for a layer");
        }
        return base.top;
    }

    private int addImage(Layer top, boolean sealed) {
        imageList.add(new Image(top, sealed));
        return imageList.size() - 1;
    }

    private static int whiteOut(Layer layer, int file) {
        int before = layer.fileSeen(file);
        if (before == NOTHING) {
            throw new IllegalStateException("nothing is seen of the file");
        }
        layer.files[file] = WHITEOUT;
        return before;
    }

    private Container addContainer(Group home, Layer own, int shares) {
        Container made = new Container(containerList.size(), home, own, shares);
        containerList.add(made);
        return made;
    }

    /** Stops a container and answers the memory that becomes free. */
    private int halt(Container container) {
        int freed = container.memory;
        container.charge(-freed, -container.processes);
        container.state = STOPPED;
        container.leaveBridge();
        container.ports = 0;
        for (int i = 0; i < publishedOn.length; i++) {
            if (publishedOn[i] == container) {
                publishedOn[i] = null;
            }
        }
        return freed;
    }

    private void killUntilFits(Container asking, int units) {
        // Each round stops a container, so there are no more rounds than containers.
        for (int round = 0; round < containerList.size(); round++) {
            Group tight = asking.group.firstWithoutMemory(units);
            if (tight == null || asking.state == STOPPED) {
                return;
            }
            Container victim = largestIn(tight);
            if (victim == null) {
                return;
            }
            halt(victim);
        }
    }

    /** The container with the most memory that has not stopped; of several the last one. */
    private Container largestIn(Group group) {
        Container largest = null;
        for (int i = 0; i < containerList.size(); i++) {
            Container one = containerList.get(i);
            boolean counts = one.state != STOPPED && one.group.isWithin(group);
            if (counts && (largest == null || one.memory >= largest.memory)) {
                largest = one;
            }
        }
        return largest;
    }

    private boolean hasRunning(Group group) {
        for (int i = 0; i < containerList.size(); i++) {
            Container one = containerList.get(i);
            if (one.state == RUNNING && one.group.isWithin(group)) {
                return true;
            }
        }
        return false;
    }

    /** Shares what a group has been granted among its parts. */
    private void shareOut(Group group) {
        int units = group.granted;
        group.granted = 0;
        int shares = collectParts(group);
        if (shares == 0) {
            return;
        }
        int left = units;
        for (int i = 0; i < parts.size() && i < remainders.length; i++) {
            Part part = parts.get(i);
            int product = units * part.shares;
            remainders[i] = product % shares;
            part.grant(product / shares);
            left -= product / shares;
        }
        grantLeft(left);
    }

    /** Lists the parts of a group and answers all their shares together. */
    private int collectParts(Group group) {
        parts.clear();
        int shares = 0;
        for (int i = 0; i < groupList.size(); i++) {
            Group one = groupList.get(i);
            if (one.parent == group && hasRunning(one)) {
                parts.add(one);
                shares += one.shares;
            }
        }
        for (int i = 0; i < containerList.size(); i++) {
            Container one = containerList.get(i);
            if (one.group == group && one.state == RUNNING) {
                parts.add(one);
                shares += one.shares;
            }
        }
        return shares;
    }

    /** Grants what the rounding left, in ones, to the parts with the greatest remainders. */
    private void grantLeft(int left) {
        for (int given = 0; given < left; given++) {
            int greatest = greatestRemainder();
            if (greatest == NONE) {
                return;
            }
            parts.get(greatest).grant(1);
            // No remainder is less than 0, so this part is not chosen again.
            remainders[greatest] = -1;
        }
    }

    private int greatestRemainder() {
        int greatest = NONE;
        int most = -1;
        for (int i = 0; i < parts.size() && i < remainders.length; i++) {
            if (remainders[i] > most) {
                greatest = i;
                most = remainders[i];
            }
        }
        return greatest;
    }

    private Container attachedAt(int bridge, int address) {
        for (int i = 0; i < containerList.size(); i++) {
            Container one = containerList.get(i);
            if (one.bridge == bridge && one.address == address) {
                return one;
            }
        }
        return null;
    }

    private int leastFreeAddress(int bridge) {
        for (int address = 1; address <= ADDRESSES; address++) {
            if (attachedAt(bridge, address) == null) {
                return address;
            }
        }
        return NONE;
    }

    private int countPublished() {
        int count = 0;
        for (int i = 0; i < publishedOn.length; i++) {
            if (publishedOn[i] != null) {
                count++;
            }
        }
        return count;
    }

    // ---- what the host is made of

    /**
     * A layer, and by its chain the row of layers under it. Layers under another one are
     * never changed any more (their image is sealed), so rows share them.
     */
    private static final class Layer {
        final Layer below;
        /** How many layers the row has, with this one as its top. */
        final int height;
        final int[] files = new int[FILES];
        /** The opaque directories, each counting 2 to the power of its number. */
        int opaque;

        Layer(Layer below) {
            this.below = below;
            this.height = below == null ? 1 : below.height + 1;
        }

        Layer copied() {
            Layer copy = new Layer(below);
            System.arraycopy(files, 0, copy.files, 0, FILES);
            copy.opaque = opaque;
            return copy;
        }

        void makeOpaque(int directory) {
            opaque |= 1 << directory;
            for (int i = 0; i < FILES_PER_DIRECTORY; i++) {
                files[directory * FILES_PER_DIRECTORY + i] = UNTOUCHED;
            }
        }

        boolean hidesBelow(int file) {
            return (opaque & (1 << (file / FILES_PER_DIRECTORY))) != 0;
        }

        int countEntries() {
            int count = Integer.bitCount(opaque);
            for (int file = 0; file < FILES; file++) {
                count += files[file] == UNTOUCHED ? 0 : 1;
            }
            return count;
        }

        /** What the row shows of a file, looked for from the top downwards. */
        int fileSeen(int file) {
            for (Layer layer = this; layer != null; layer = layer.below) {
                if (layer.files[file] != UNTOUCHED || layer.hidesBelow(file)) {
                    return layer.laidOver(NOTHING, file);
                }
            }
            return NOTHING;
        }

        int filesSeenIn(int directory) {
            int count = 0;
            for (int i = 0; i < FILES_PER_DIRECTORY; i++) {
                count += fileSeen(directory * FILES_PER_DIRECTORY + i) == NOTHING ? 0 : 1;
            }
            return count;
        }

        /** The same, built up from the lowest layer as on a plain host. */
        int fileBuiltUp(int file) {
            int content = NOTHING;
            for (int step = 1; step <= height; step++) {
                Layer layer = atHeight(step);
                content = layer == null ? content : layer.laidOver(content, file);
            }
            return content;
        }

        /** What is seen of a file with this one layer laid over what was seen before. */
        int laidOver(int before, int file) {
            int mine = files[file];
            if (mine == UNTOUCHED) {
                return hidesBelow(file) ? NOTHING : before;
            }
            return mine == WHITEOUT ? NOTHING : mine;
        }

        Layer atHeight(int wanted) {
            Layer layer = this;
            while (layer != null && layer.height != wanted) {
                layer = layer.below;
            }
            return layer;
        }
    }

    private static final class Image {
        final Layer top;
        boolean sealed;

        Image(Layer top, boolean sealed) {
            this.top = top;
            this.sealed = sealed;
        }
    }

    /** What a group shares its processor time among. */
    private abstract static class Part {
        final int shares;

        Part(int shares) {
            this.shares = shares;
        }

        abstract void grant(int units);
    }

    private static final class Group extends Part {
        /** Null for the root; so the chain of parents is the path. */
        final Group parent;
        final int memoryLimit;
        final int processLimit;
        /** The memory and the processes of all containers in it and below. */
        int memory;
        int processes;
        /** Processor time that it has got and not shared out yet. */
        int granted;

        Group(Group parent, int memoryLimit, int processLimit, int shares) {
            super(shares);
            this.parent = parent;
            this.memoryLimit = memoryLimit;
            this.processLimit = processLimit;
        }

        void grant(int units) {
            granted += units;
        }

        boolean isWithin(Group other) {
            for (Group group = this; group != null; group = group.parent) {
                if (group == other) {
                    return true;
                }
            }
            return false;
        }

        boolean hasRoom(int moreMemory, int moreProcesses) {
            for (Group group = this; group != null; group = group.parent) {
                boolean memoryFits = group.memory + moreMemory <= group.memoryLimit;
                boolean processesFit = group.processes + moreProcesses <= group.processLimit;
                if (!memoryFits || !processesFit) {
                    return false;
                }
            }
            return true;
        }

        Group firstWithoutMemory(int more) {
            for (Group group = this; group != null; group = group.parent) {
                if (group.memory + more > group.memoryLimit) {
                    return group;
                }
            }
            return null;
        }
    }

    private static final class Container extends Part {
        final int number;
        final Group group;
        /** Its own layer, on those of its image. */
        final Layer own;
        int state = RUNNING;
        int memory;
        int processes;
        int time;
        int permitted;
        int effective;
        /** The ports on which it listens, each counting 2 to the power of its number. */
        int ports;
        int bridge = NONE;
        int address = NONE;

        Container(int number, Group group, Layer own, int shares) {
            super(shares);
            this.number = number;
            this.group = group;
            this.own = own;
        }

        void grant(int units) {
            time += units;
        }

        /** Changes its memory and processes, and with them those of the groups on its path. */
        void charge(int moreMemory, int moreProcesses) {
            memory += moreMemory;
            processes += moreProcesses;
            for (Group on = group; on != null; on = on.parent) {
                on.memory += moreMemory;
                on.processes += moreProcesses;
            }
        }

        boolean listensOn(int port) {
            return (ports & (1 << port)) != 0;
        }

        void leaveBridge() {
            bridge = NONE;
            address = NONE;
        }
    }

    /** A container as it was when it was saved. */
    private static final class Checkpoint {
        final Layer own;
        final int shares;
        final int memory;
        final int processes;
        final int permitted;
        final int effective;
        final int ports;

        Checkpoint(Container saved) {
            own = saved.own.copied();
            shares = saved.shares;
            memory = saved.memory;
            processes = saved.processes;
            permitted = saved.permitted;
            effective = saved.effective;
            ports = saved.ports;
        }
    }
}

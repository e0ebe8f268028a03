import java.util.ArrayList;
import java.util.HashMap;
import java.util.List;
import java.util.Map;
import java.util.TreeSet;

/**
 * A second host for the tests, written from the document alone and in another way than
 * ContainerHost: it keeps no sums, holds layers as maps and copies whole rows.
 */
final class PlainHost {
    private static final class Row {
        boolean sealed;
        final List<Map<String, Integer>> layers = new ArrayList<>();

        Row copy() {
            Row copy = new Row();
            for (Map<String, Integer> layer : layers) {
                copy.layers.add(new HashMap<>(layer));
            }
            return copy;
        }

        Map<String, Integer> top() {
            return layers.get(layers.size() - 1);
        }

        /** Builds all files up from the lowest layer. */
        int[] plain() {
            int[] seen = new int[32];
            for (Map<String, Integer> layer : layers) {
                for (int f = 0; f < 32; f++) {
                    if (layer.containsKey("opaque" + f / 4)) {
                        seen[f] = 0;
                    }
                }
                for (int f = 0; f < 32; f++) {
                    seen[f] = layer.getOrDefault("file" + f, seen[f]);
                }
            }
            return seen;
        }
    }

    private static final class Group {
        int number;
        int parent;
        int memory;
        int processes;
        int shares;
    }

    private static final class Box {
        int number;
        int group;
        int shares;
        int state;
        int memory;
        int processes = 1;
        int time;
        int bridge = -1;
        int address;
        Row row;
        TreeSet<Integer> permitted = new TreeSet<>();
        TreeSet<Integer> effective = new TreeSet<>();
        TreeSet<Integer> ports = new TreeSet<>();

        Box copy() {
            Box copy = new Box();
            copy.shares = shares;
            copy.memory = memory;
            copy.processes = processes;
            copy.row = row.copy();
            copy.permitted.addAll(permitted);
            copy.effective.addAll(effective);
            copy.ports.addAll(ports);
            return copy;
        }
    }

    private final List<Row> images = new ArrayList<>();
    private final List<Group> groups = new ArrayList<>();
    private final List<Box> boxes = new ArrayList<>();
    private final List<Box> saved = new ArrayList<>();
    private final Map<Integer, Integer> published = new HashMap<>();

    PlainHost() {
        addGroup(-1, 10000, 100, 0);
    }

    private static void index(boolean right) {
        if (!right) {
            throw new IndexOutOfBoundsException();
        }
    }

    private static void index(int number, int size) {
        index(number >= 0 && number < size);
    }

    private static void range(int value, int least, int most) {
        if (value < least || value > most) {
            throw new IllegalArgumentException();
        }
    }

    private static void state(boolean right) {
        if (!right) {
            throw new IllegalStateException();
        }
    }

    private static int number(TreeSet<Integer> set) {
        int sum = 0;
        for (int one : set) {
            sum += (int) Math.pow(2, one);
        }
        return sum;
    }

    int newImage(int base) {
        index(base == -1 || base >= 0 && base < images.size());
        Row row = new Row();
        if (base != -1) {
            state(images.get(base).sealed && images.get(base).layers.size() < 8);
            row = images.get(base).copy();
        }
        state(images.size() < 10);
        row.layers.add(new HashMap<>());
        images.add(row);
        return images.size() - 1;
    }

    int write(int image, int file, int content) {
        index(image, images.size());
        index(file, 32);
        range(content, 1, 999);
        state(!images.get(image).sealed);
        int before = shown(image, file);
        images.get(image).top().put("file" + file, content);
        return before;
    }

    int remove(int image, int file) {
        int before = shown(image, file);
        state(!images.get(image).sealed && before != 0);
        images.get(image).top().put("file" + file, 0);
        return before;
    }

    int clear(int image, int directory) {
        index(image, images.size());
        index(directory, 8);
        state(!images.get(image).sealed);
        int count = 0;
        for (int file = directory * 4; file < directory * 4 + 4; file++) {
            count += shown(image, file) > 0 ? 1 : 0;
            images.get(image).top().remove("file" + file);
        }
        // After the counting, which it would change.
        images.get(image).top().put("opaque" + directory, 1);
        return count;
    }

    int seal(int image) {
        index(image, images.size());
        state(!images.get(image).sealed);
        images.get(image).sealed = true;
        return images.get(image).layers.size();
    }

    int shown(int image, int file) {
        index(image, images.size());
        index(file, 32);
        return images.get(image).plain()[file];
    }

    int entries(int image, int layer) {
        index(image, images.size());
        index(layer, images.get(image).layers.size());
        return images.get(image).layers.get(layer).size();
    }

    int commit(int container) {
        index(container, boxes.size());
        state(boxes.get(container).row.layers.size() <= 8);
        state(images.size() < 10);
        Row row = boxes.get(container).row.copy();
        row.sealed = true;
        images.add(row);
        return images.size() - 1;
    }

    private int addGroup(int parent, int memory, int processes, int shares) {
        Group group = new Group();
        group.number = groups.size();
        group.parent = parent;
        group.memory = memory;
        group.processes = processes;
        group.shares = shares;
        groups.add(group);
        return group.number;
    }

    int newGroup(int parent, int memory, int processes, int shares) {
        index(parent, groups.size());
        range(memory, 1, 10000);
        range(processes, 1, 100);
        range(shares, 1, 100);
        state(groups.size() < 8);
        return addGroup(parent, memory, processes, shares);
    }

    private List<Integer> path(int group) {
        List<Integer> path = new ArrayList<>();
        for (int g = group; g != -1; g = groups.get(g).parent) {
            path.add(g);
        }
        return path;
    }

    private List<Box> within(int group) {
        List<Box> found = new ArrayList<>();
        for (Box box : boxes) {
            if (path(box.group).contains(group)) {
                found.add(box);
            }
        }
        return found;
    }

    int groupMemory(int group) {
        index(group, groups.size());
        return within(group).stream().mapToInt(box -> box.memory).sum();
    }

    int groupProcesses(int group) {
        index(group, groups.size());
        return within(group).stream().mapToInt(box -> box.processes).sum();
    }

    private boolean processesFit(int group, int more) {
        return path(group).stream().allMatch(g -> groupProcesses(g) + more <= groups.get(g).processes);
    }

    private boolean memoryFits(int group, int more) {
        return path(group).stream().allMatch(g -> groupMemory(g) + more <= groups.get(g).memory);
    }

    private int addBox(Box box, int group) {
        box.number = boxes.size();
        box.group = group;
        boxes.add(box);
        return box.number;
    }

    int run(int image, int group, int capabilities, int shares) {
        index(image, images.size());
        index(group, groups.size());
        range(capabilities, 0, 15);
        range(shares, 1, 100);
        state(images.get(image).sealed && boxes.size() < 20 && processesFit(group, 1));
        Box box = new Box();
        box.row = images.get(image).copy();
        box.row.layers.add(new HashMap<>());
        box.shares = shares;
        for (int capability = 0; capability < 4; capability++) {
            if (capabilities / (int) Math.pow(2, capability) % 2 == 1) {
                box.permitted.add(capability);
                box.effective.add(capability);
            }
        }
        return addBox(box, group);
    }

    private Box box(int container) {
        index(container, boxes.size());
        return boxes.get(container);
    }

    int pause(int container) {
        state(box(container).state == 0);
        box(container).state = 1;
        return 0;
    }

    int resume(int container) {
        state(box(container).state == 1);
        box(container).state = 0;
        return 0;
    }

    private int end(Box box) {
        int memory = box.memory;
        box.memory = 0;
        box.processes = 0;
        box.state = 2;
        box.bridge = -1;
        box.ports.clear();
        published.values().removeIf(number -> number == box.number);
        return memory;
    }

    int stop(int container) {
        state(box(container).state != 2);
        return end(box(container));
    }

    int allocate(int container, int units) {
        Box asks = box(container);
        range(units, 1, 5000);
        state(asks.state == 0);
        while (asks.state == 0 && !memoryFits(asks.group, units)) {
            int tight = path(asks.group).stream()
                    .filter(g -> groupMemory(g) + units > groups.get(g).memory).findFirst().get();
            end(within(tight).stream().filter(box -> box.state != 2)
                    .max((a, b) -> a.memory != b.memory ? a.memory - b.memory : a.number - b.number).get());
        }
        if (asks.state == 2) {
            return -1;
        }
        return asks.memory += units;
    }

    int free(int container, int units) {
        Box box = box(container);
        range(units, 1, 5000);
        state(box.state == 0 && box.memory >= units);
        return box.memory -= units;
    }

    int fork(int container) {
        Box box = box(container);
        state(box.state == 0 && processesFit(box.group, 1));
        return ++box.processes;
    }

    int exit(int container) {
        Box box = box(container);
        state(box.state == 0);
        if (--box.processes == 0) {
            end(box);
        }
        return box.processes;
    }

    int schedule(int units) {
        range(units, 1, 10000);
        return give(0, units);
    }

    private int give(int group, int units) {
        List<Object> parts = new ArrayList<>();
        List<Integer> shares = new ArrayList<>();
        for (Group one : groups) {
            if (one.parent == group && within(one.number).stream().anyMatch(box -> box.state == 0)) {
                parts.add(one);
                shares.add(one.shares);
            }
        }
        for (Box box : boxes) {
            if (box.group == group && box.state == 0) {
                parts.add(box);
                shares.add(box.shares);
            }
        }
        int all = shares.stream().mapToInt(share -> share).sum();
        List<Integer> order = new ArrayList<>();
        int left = units;
        for (int i = 0; i < parts.size(); i++) {
            order.add(i);
            left -= units * shares.get(i) / all;
        }
        // A stable order: of parts with the same remainder the earlier one stays the first.
        order.sort((a, b) -> units * shares.get(b) % all - units * shares.get(a) % all);
        int given = 0;
        for (int i = 0; i < order.size(); i++) {
            int part = order.get(i);
            int gets = units * shares.get(part) / all + (i < left ? 1 : 0);
            if (parts.get(part) instanceof Box) {
                ((Box) parts.get(part)).time += gets;
                given += gets;
            } else {
                given += give(((Group) parts.get(part)).number, gets);
            }
        }
        return given;
    }

    private void mayChange(Box box, int file) {
        state(box.state == 0 && (file >= 4 || box.effective.contains(1)));
    }

    int writeFile(int container, int file, int content) {
        Box box = box(container);
        index(file, 32);
        range(content, 1, 999);
        mayChange(box, file);
        int before = box.row.plain()[file];
        box.row.top().put("file" + file, content);
        return before;
    }

    int removeFile(int container, int file) {
        Box box = box(container);
        index(file, 32);
        mayChange(box, file);
        int before = box.row.plain()[file];
        state(before != 0);
        box.row.top().put("file" + file, 0);
        return before;
    }

    int plainFileOf(int container, int file) {
        index(container, boxes.size());
        index(file, 32);
        return boxes.get(container).row.plain()[file];
    }

    int raise(int container, int capability) {
        Box box = box(container);
        index(capability, 4);
        state(box.state == 0 && box.permitted.contains(capability));
        box.effective.add(capability);
        return number(box.effective);
    }

    int lower(int container, int capability) {
        Box box = box(container);
        index(capability, 4);
        state(box.state == 0);
        box.effective.remove(capability);
        return number(box.effective);
    }

    int drop(int container, int capability) {
        lower(container, capability);
        boxes.get(container).permitted.remove(capability);
        return number(boxes.get(container).permitted);
    }

    int kill(int container, int victim) {
        Box killer = box(container);
        Box dies = box(victim);
        state(killer.state == 0 && killer.effective.contains(3) && container != victim && dies.state != 2);
        state(within(killer.group).contains(dies));
        return end(dies);
    }

    private Box at(int bridge, int address) {
        return boxes.stream().filter(box -> box.bridge == bridge && box.address == address)
                .findFirst().orElse(null);
    }

    int attach(int container, int bridge) {
        Box box = box(container);
        index(bridge, 4);
        state(box.state == 0 && box.effective.contains(2) && box.bridge == -1);
        int address = 1;
        while (at(bridge, address) != null) {
            address++;
        }
        state(address <= 6);
        box.bridge = bridge;
        box.address = address;
        return address;
    }

    int detach(int container) {
        Box box = box(container);
        state(box.state == 0 && box.bridge != -1);
        int bridge = box.bridge;
        box.bridge = -1;
        return bridge;
    }

    int listen(int container, int port) {
        Box box = box(container);
        index(port, 16);
        state(box.state == 0 && !box.ports.contains(port) && (port >= 4 || box.effective.contains(0)));
        box.ports.add(port);
        return box.ports.size();
    }

    int publish(int container, int port, int hostPort) {
        Box box = box(container);
        index(port, 16);
        index(hostPort, 32);
        state(box.ports.contains(port) && !published.containsKey(hostPort));
        published.put(hostPort, container);
        return published.size();
    }

    int connect(int container, int address, int port) {
        Box box = box(container);
        index(port, 16);
        range(address, 1, 6);
        state(box.state == 0 && box.bridge != -1);
        Box reached = at(box.bridge, address);
        return reached != null && reached.state == 0 && reached.ports.contains(port) ? reached.number : -1;
    }

    int connectHost(int hostPort) {
        index(hostPort, 32);
        int number = published.getOrDefault(hostPort, -1);
        return number != -1 && boxes.get(number).state == 0 ? number : -1;
    }

    int save(int container) {
        Box box = box(container);
        state(box.state == 1 && saved.size() < 5);
        saved.add(box.copy());
        return saved.size() - 1;
    }

    int restore(int checkpoint, int group) {
        index(checkpoint, saved.size());
        index(group, groups.size());
        Box box = saved.get(checkpoint).copy();
        state(boxes.size() < 20 && memoryFits(group, box.memory) && processesFit(group, box.processes));
        return addBox(box, group);
    }

    int images() {
        return images.size();
    }

    int groups() {
        return groups.size();
    }

    int checkpoints() {
        return saved.size();
    }

    int containers() {
        return boxes.size();
    }

    int stateOf(int container) {
        return box(container).state;
    }

    int memoryOf(int container) {
        return box(container).memory;
    }

    int timeOf(int container) {
        return box(container).time;
    }

    int capabilitiesOf(int container) {
        return number(box(container).permitted) * 16 + number(box(container).effective);
    }

    int addressOf(int container) {
        Box box = box(container);
        return box.bridge == -1 ? -1 : box.bridge * 10 + box.address;
    }
}

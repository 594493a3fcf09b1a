import java.util.ArrayDeque;
import java.util.ArrayList;
import java.util.Arrays;
import java.util.HashMap;
import java.util.LinkedHashSet;
import java.util.List;
import java.util.Map;

/** The document once more, written with lists and maps and without care for cost; one object for one state of the ROWS. */
final class Model {
    /** A LINE is kind, x, y, n, 1 if RELATIVE. */
    final List<List<int[]>> rows;

    static final class Thing {
        int kind, x, y, n, line, depth, address, size;
        boolean isLong, isFollowed;
        Map<Integer, Integer> names;
    }

    @SuppressWarnings("serial")
    private static final class Fault extends Exception {
        final int number;
        final int at;

        Fault(int number, int at) {
            this.number = number;
            this.at = at;
        }
    }

    int fault = 0;
    int faultAt = -1;
    int rounds = 0;
    List<Thing> things = new ArrayList<>();
    List<Integer> words = new ArrayList<>();
    List<Integer> owners = new ArrayList<>();
    private Map<Integer, Integer> names = new HashMap<>();
    private int expanded = 0;

    Model(List<List<int[]>> rows) {
        this.rows = rows;
        try {
            expand(rows.get(0), 0, 0, -1);
            Thing last = new Thing();
            last.kind = 6;
            last.x = -1;
            last.y = -1;
            last.line = -1;
            things.add(last);
            for (Thing t : things) {
                valueOrFault(t);
            }
            layOut();
            for (Thing t : things) {
                if (t.kind == 5 && addressOfN(t) > t.address + 16) {
                    throw new Fault(6, t.line);
                }
            }
            write();
            follow();
        } catch (Fault f) {
            fault = f.number;
            faultAt = f.at;
            things.clear();
        }
    }

    private boolean hasLabel(int name) {
        return things.stream().anyMatch(t -> t.kind == 0 && t.x == name);
    }

    private int soFar(int name, int at) throws Fault {
        if (name == -1) {
            return 0;
        }
        if (!names.containsKey(name)) {
            throw new Fault(3, at);
        }
        return names.get(name);
    }

    private void expand(List<int[]> row, int arg, int depth, int mainLine) throws Fault {
        int i = 0;
        while (i < row.size()) {
            int[] l = row.get(i);
            int at = depth == 0 ? i : mainLine;
            int n = l[3] + l[4] * arg;
            i++;
            if (++expanded > 400 || l[0] < 8 && things.size() == 120) {
                throw new Fault(2, at);
            }
            if (l[0] == 10) {
                if (depth + 1 == 6) {
                    throw new Fault(1, at);
                }
                expand(rows.get(l[1]), n, depth + 1, at);
            } else if (l[0] == 8) {
                if (n + soFar(l[1], at) - soFar(l[2], at) <= 0) {
                    i = endOf(row, i);
                }
            } else if (l[0] < 8) {
                Thing t = new Thing();
                t.kind = l[0];
                t.x = l[1];
                t.y = l[2];
                t.n = n;
                t.line = at;
                t.depth = depth;
                if (t.kind == 1) {
                    int value = soFar(t.y, at) + n;
                    if (hasLabel(t.x)) {
                        throw new Fault(4, at);
                    }
                    names.put(t.x, value);
                }
                if (t.kind == 0 && t.x < 8 && (hasLabel(t.x) || names.containsKey(t.x))) {
                    throw new Fault(4, at);
                }
                t.names = new HashMap<>(names);
                things.add(t);
            }
        }
    }

    private static int endOf(List<int[]> row, int from) {
        int i = from;
        while (i < row.size() && row.get(i)[0] != 9) {
            i = row.get(i)[0] == 8 ? endOf(row, i + 1) + 1 : i + 1;
        }
        return Math.min(i, row.size());
    }

    private Integer valueOf(int ref, int at) {
        if (ref == -1) {
            return 0;
        }
        Integer ahead = null;
        Integer behind = null;
        for (int i = 0; i < things.size(); i++) {
            Thing t = things.get(i);
            if (t.kind == 0 && t.x == (ref > 9 ? ref - 2 : ref)) {
                if (i < at) {
                    ahead = t.address;
                } else if (behind == null) {
                    behind = t.address;
                }
            }
        }
        if (ref > 9) {
            return behind;
        }
        if (ref > 7) {
            return ahead;
        }
        return ahead != null ? ahead : behind != null ? behind : things.get(at).names.get(ref);
    }

    private int valueOrFault(Thing t) throws Fault {
        if (t.kind < 2 || t.kind > 4) {
            return 0;
        }
        Integer x = valueOf(t.x, things.indexOf(t));
        Integer y = valueOf(t.y, things.indexOf(t));
        if (x == null || y == null) {
            throw new Fault(5, t.line);
        }
        return t.n + x - y;
    }

    int value(Thing t) {
        try {
            return valueOrFault(t);
        } catch (Fault f) {
            throw new AssertionError("a FAULT 5 that was not seen");
        }
    }

    int distance(Thing t) {
        return value(t) - t.address - 1;
    }

    private boolean isBranch(Thing t) {
        return t.kind == 3 || t.kind == 4;
    }

    private boolean isNear(Thing t) {
        return distance(t) >= -8 && distance(t) <= 7;
    }

    private List<Integer> ofPool(int pool) {
        LinkedHashSet<Integer> ns = new LinkedHashSet<>();
        int i = pool - 1;
        while (i >= 0 && things.get(i).kind != 6) {
            i--;
        }
        for (i++; i < pool; i++) {
            if (things.get(i).kind == 5) {
                ns.add(things.get(i).n);
            }
        }
        return new ArrayList<>(ns);
    }

    private int addressOfN(Thing load) {
        int i = things.indexOf(load);
        while (things.get(i).kind != 6) {
            i++;
        }
        return things.get(i).address + ofPool(i).indexOf(load.n);
    }

    private void place() {
        int address = 0;
        for (int i = 0; i < things.size(); i++) {
            Thing t = things.get(i);
            int[] sizes = {0, 0, 1, t.isLong ? 2 : 1, t.isLong ? 3 : 1, 1, 0, 0};
            t.address = address;
            t.size = sizes[t.kind];
            if (t.kind == 6) {
                t.size = ofPool(i).size();
            }
            while (t.kind == 7 && (t.address + t.size) % t.n != 0) {
                t.size++;
            }
            address += t.size;
        }
    }

    private void layOut() {
        List<Thing> far = new ArrayList<>();
        do {
            place();
            rounds++;
            far.clear();
            for (Thing t : things) {
                if (isBranch(t) && !t.isLong && !isNear(t)) {
                    far.add(t);
                }
            }
            far.forEach(t -> t.isLong = true);
        } while (!far.isEmpty());
    }

    private void write() {
        for (int i = 0; i < things.size(); i++) {
            Thing t = things.get(i);
            List<Integer> these = new ArrayList<>();
            switch (t.kind) {
                case 2 -> these.add(value(t));
                case 3 -> these.addAll(t.isLong ? List.of(3100, value(t)) : List.of(3008 + distance(t)));
                case 4 -> these.addAll(t.isLong ? List.of(4100, 3100, value(t)) : List.of(4008 + distance(t)));
                case 5 -> these.add(5000 + addressOfN(t) - t.address - 1);
                case 6 -> these.addAll(ofPool(i));
                case 7 -> these.addAll(Arrays.asList(new Integer[t.size]));
                default -> { }
            }
            for (Integer word : these) {
                words.add(word == null ? 0 : word);
                owners.add(i);
            }
        }
    }

    private void follow() {
        ArrayDeque<Integer> open = new ArrayDeque<>(List.of(0));
        while (!open.isEmpty()) {
            int i = open.pop();
            if (i >= things.size()) {
                continue;
            }
            Thing t = things.get(i);
            if (t.isFollowed || t.kind == 2 || (t.kind == 6 || t.kind == 7) && t.size > 0) {
                continue;
            }
            t.isFollowed = true;
            if (t.kind != 3) {
                open.push(i + 1);
            }
            if (isBranch(t) && value(t) >= 0 && value(t) < words.size()) {
                int to = 0;
                while (to < things.size() && things.get(to).address != value(t)) {
                    to++;
                }
                open.push(to);
            }
        }
    }

    int ofThing(int i, int what) {
        Thing t = things.get(i);
        int[] all = {t.kind, t.address, t.size, t.line, t.depth, t.n, t.isLong ? 1 : 0, t.isFollowed ? 1 : 0};
        return all[what];
    }

    int nameAtEnd(int name) {
        for (Thing t : things) {
            if (t.kind == 0 && t.x == name) {
                return t.address;
            }
        }
        return names.getOrDefault(name, -1);
    }

    int count(int what) {
        if (what < 2) {
            return what == 0 ? rows.get(0).size() : rows.stream().mapToInt(List::size).sum();
        }
        if (fault != 0) {
            return -1;
        }
        int[] sums = {0, 0, things.size(), words.size(), 0, 0, rounds, 0, 0, 0, 0, 0};
        for (Thing t : things) {
            sums[4] += isBranch(t) ? 1 : 0;
            sums[5] += t.isLong ? 1 : 0;
            sums[7] += t.kind == 5 ? 1 : 0;
        }
        for (int owner : owners) {
            Thing t = things.get(owner);
            sums[8] += t.kind == 6 ? 1 : 0;
            sums[9] += t.kind == 7 ? 1 : 0;
            sums[10] += t.isFollowed ? 1 : 0;
            sums[11] += !t.isFollowed && (isBranch(t) || t.kind == 5) ? 1 : 0;
        }
        return sums[what];
    }

    int wronglyLong() {
        int found = 0;
        for (Thing t : things) {
            if (t.isLong) {
                t.isLong = false;
                place();
                found += isNear(t) ? 1 : 0;
                t.isLong = true;
            }
        }
        if (!things.isEmpty()) {
            place();
        }
        return found;
    }

    int wordsOrFault() {
        return fault == 0 ? words.size() : -10 - fault;
    }

    private Model with(int row, List<int[]> lines) {
        List<List<int[]>> others = new ArrayList<>(rows);
        others.set(row, lines);
        return new Model(others);
    }

    int without(int row, int line) {
        List<int[]> lines = new ArrayList<>(rows.get(row));
        lines.remove(line);
        return with(row, lines).wordsOrFault();
    }

    int withN(int row, int line, int n) {
        List<int[]> lines = new ArrayList<>(rows.get(row));
        int[] changed = lines.get(line).clone();
        changed[3] = n;
        lines.set(line, changed);
        return with(row, lines).wordsOrFault();
    }

    int longByData(int line, int times) {
        if (fault != 0) {
            return 0;
        }
        List<int[]> lines = new ArrayList<>(rows.get(0));
        for (int i = 0; i < times; i++) {
            lines.add(line, new int[] {2, -1, -1, 0, 0});
        }
        Model then = with(0, lines);
        return then.fault != 0 ? -1000 - then.fault : then.count(5) - count(5);
    }
}

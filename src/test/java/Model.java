import java.util.ArrayList;
import java.util.HashMap;
import java.util.HashSet;
import java.util.List;
import java.util.Map;
import java.util.Set;

/** The document again, written another way (objects, sets and exceptions), for ModelTest to compare with. */
final class Model {
    /** A failure on its way up. */
    private static final class Failed extends Exception {
        private static final long serialVersionUID = 1L;
        final int code;
        final Failed because;

        Failed(int code, Failed because) {
            this.code = code;
            this.because = because;
        }
    }

    private record At(int loader, int name) { }

    private record FileOf(int says, int superclass, int face, int marks) { }

    private record Script(int way, int m) { }

    private record Pair(int a, int b, int name) { }

    /** What something came to: a class, or a failure. */
    private record End(Made made, Failed failed) { }

    private static final class Made {
        int number;
        int name;
        int loader;
        Made superclass;
        Made face;
        int marks;
        final Map<Integer, Integer> references = new HashMap<>();
        final Map<Integer, End> kept = new HashMap<>();
    }

    private final Map<Integer, Integer> parents = new HashMap<>();
    private final Map<At, FileOf> files = new HashMap<>();
    private final Map<At, Script> scripts = new HashMap<>();
    private final Map<At, Made> records = new HashMap<>();
    private final List<At> underWay = new ArrayList<>();
    private final Set<Pair> constraints = new HashSet<>();
    private final List<Made> classes = new ArrayList<>();
    private int requests = 0;
    private End last = new End(null, null);

    /** How deep the requests ever were, to see that the runs go far. */
    int deepest = 0;

    private static boolean in(int x, int low, int high) {
        return low <= x && x <= high;
    }

    private static boolean in(At at) {
        return in(at.loader, 0, 4) && in(at.name, 0, 7);
    }

    int parent(int loader, int parent) {
        if (!in(loader, 1, 4) || !in(parent, -1, loader - 1)) {
            return -1;
        }
        parents.remove(loader);
        if (parent >= 0) {
            parents.put(loader, parent);
        }
        return 0;
    }

    int file(int loader, int name, int parts, int marks) {
        if (!in(new At(loader, name)) || !in(parts, 0, 728) || parts % 9 == 8 || !in(marks, 0, 7)) {
            return -1;
        }
        files.put(new At(loader, name), new FileOf(parts % 9, parts / 9 % 9, parts / 81, marks));
        return 0;
    }

    int noFile(int loader, int name) {
        return files.remove(new At(loader, name)) == null ? -1 : 0;
    }

    int script(int loader, int name, int way, int m) {
        if (!in(new At(loader, name)) || !in(way, 0, 6)) {
            return -1;
        }
        if (way == 2 && !in(m, 0, 4) || (way == 3 || way == 6) && !in(m, 0, 7)) {
            return -1;
        }
        scripts.put(new At(loader, name), new Script(way, m));
        return 0;
    }

    int load(int loader, int name) {
        if (!in(new At(loader, name))) {
            return -1;
        }
        requests = 0;
        try {
            last = new End(request(new At(loader, name)), null);
        } catch (Failed failed) {
            last = new End(null, failed);
        }
        return told(last);
    }

    int refer(int number, int reference, int name) {
        Made made = byNumber(number);
        if (made == null || !in(reference, 0, 3) || !in(name, 0, 7) || made.kept.containsKey(reference)) {
            return -1;
        }
        made.references.put(reference, name);
        return 0;
    }

    int resolve(int number, int reference) {
        Made made = byNumber(number);
        if (made == null || !made.references.containsKey(reference)) {
            return -1;
        }
        requests = 0;
        if (!made.kept.containsKey(reference)) {
            try {
                made.kept.put(reference, new End(resolved(new At(made.loader, made.references.get(reference))), null));
            } catch (Failed failed) {
                made.kept.put(reference, new End(null, failed));
            }
        }
        last = made.kept.get(reference);
        return told(last);
    }

    int constrain(int a, int b, int name) {
        if (!in(new At(a, name)) || !in(new At(b, name))) {
            return -1;
        }
        Pair pair = new Pair(a, b, name);
        boolean isNew = constraints.add(pair);
        if (broken()) {
            if (isNew) {
                constraints.remove(pair);
            }
            return -9;
        }
        return 0;
    }

    boolean agree(int a, int b, int name) {
        return in(new At(a, name)) && in(new At(b, name)) && agreeing(a, name).contains(b);
    }

    int cause(int k) {
        Failed failed = k < 0 ? null : last.failed;
        for (int each = 0; each < k && failed != null; each++) {
            failed = failed.because;
        }
        return failed == null ? -1 : failed.code;
    }

    int requests() {
        return requests;
    }

    int recorded(int loader, int name) {
        return in(new At(loader, name)) ? numberOf(records.get(new At(loader, name))) : -1;
    }

    int of(int number, int what) {
        Made made = byNumber(number);
        if (made == null || !in(what, 0, 8)) {
            return -1;
        }
        if (what >= 5) {
            return made.kept.containsKey(what - 5) ? told(made.kept.get(what - 5)) : 0;
        }
        int[] all = {made.name, made.loader, numberOf(made.superclass), numberOf(made.face), made.marks};
        return all[what];
    }

    boolean isA(int number, int other) {
        return byNumber(number) != null && byNumber(other) != null && standsOn(byNumber(number), byNumber(other));
    }

    int count(int what) {
        int pairs = 0;
        for (int name = 0; name < 8; name++) {
            for (int loader = 0; loader < 5; loader++) {
                pairs += agreeing(loader, name).size() - 1;
            }
        }
        int[] all = {classes.size(), records.size(), files.size(), pairs / 2};
        return in(what, 0, 3) ? all[what] : -1;
    }

    private static int told(End end) {
        return end.failed != null ? end.failed.code : end.made.number;
    }

    private static int numberOf(Made made) {
        return made == null ? 0 : made.number;
    }

    private Made byNumber(int number) {
        return in(number, 1, classes.size()) ? classes.get(number - 1) : null;
    }

    private static boolean standsOn(Made made, Made other) {
        return made != null && (made == other || standsOn(made.superclass, other) || standsOn(made.face, other));
    }

    private Set<Integer> agreeing(int loader, int name) {
        Set<Integer> found = new HashSet<>(Set.of(loader));
        for (int round = 0; round < 5; round++) {
            for (Pair pair : constraints) {
                if (pair.name == name && (found.contains(pair.a) || found.contains(pair.b))) {
                    found.add(pair.a);
                    found.add(pair.b);
                }
            }
        }
        return found;
    }

    private boolean broken() {
        for (At at : records.keySet()) {
            for (int other : agreeing(at.loader, at.name)) {
                Made theirs = records.get(new At(other, at.name));
                if (theirs != null && theirs != records.get(at)) {
                    return true;
                }
            }
        }
        return false;
    }

    private Made request(At at) throws Failed {
        requests++;
        if (records.containsKey(at)) {
            return records.get(at);
        }
        if (underWay.contains(at)) {
            throw new Failed(-10, null);
        }
        underWay.add(at);
        deepest = Math.max(deepest, underWay.size());
        Made answer;
        try {
            answer = byWay(at);
        } finally {
            underWay.remove(underWay.size() - 1);
        }
        if (answer == null) {
            throw new Failed(-4, null);
        }
        if (answer.name != at.name) {
            throw new Failed(-5, null);
        }
        records.put(at, answer);
        if (broken()) {
            records.remove(at);
            throw new Failed(-9, null);
        }
        return answer;
    }

    private Made byWay(At at) throws Failed {
        Script script = scripts.getOrDefault(at, new Script(0, 0));
        Integer parent = parents.get(at.loader);
        if (script.way == 2) {
            return request(new At(script.m, at.name));
        }
        if (script.way == 3) {
            return request(new At(at.loader, script.m));
        }
        if (script.way == 4) {
            return null;
        }
        if (script.way == 5) {
            throw new Failed(-11, null);
        }
        if (script.way == 1) {
            if (files.containsKey(at) || parent == null) {
                return defined(at);
            }
            return request(new At(parent, at.name));
        }
        if (script.way == 6) {
            request(new At(at.loader, script.m));
        }
        if (parent != null) {
            try {
                return request(new At(parent, at.name));
            } catch (Failed failed) {
                if (failed.code != -3) {
                    throw failed;
                }
            }
        }
        return defined(at);
    }

    private Made defined(At at) throws Failed {
        FileOf file = files.get(at);
        if (file == null) {
            throw new Failed(-3, null);
        }
        if (file.marks >= 4) {
            throw new Failed(-6, null);
        }
        if (file.says != at.name) {
            throw new Failed(-5, null);
        }
        Made made = new Made();
        made.superclass = part(at.loader, file.superclass);
        if (made.superclass != null && made.superclass.marks != 0) {
            throw new Failed(-8, null);
        }
        made.face = part(at.loader, file.face);
        if (made.face != null && made.face.marks % 2 == 0) {
            throw new Failed(-8, null);
        }
        if (classes.size() == 30) {
            throw new Failed(-2, null);
        }
        classes.add(made);
        made.number = classes.size();
        made.name = at.name;
        made.loader = at.loader;
        made.marks = file.marks;
        return made;
    }

    private Made part(int loader, int name) throws Failed {
        if (name == 8) {
            return null;
        }
        if (underWay.contains(new At(loader, name))) {
            throw new Failed(-7, null);
        }
        return resolved(new At(loader, name));
    }

    private Made resolved(At at) throws Failed {
        try {
            return request(at);
        } catch (Failed failed) {
            throw failed.code == -3 ? new Failed(-4, failed) : failed;
        }
    }
}

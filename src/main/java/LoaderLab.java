/** A laboratory of class loaders that follow scripts; the numbered promises stand in DOC.md. */
public final class LoaderLab {
    public static final int REFUSED = -1;
    public static final int FULL = -2;
    public static final int NOT_FOUND = -3;
    public static final int NO_CLASS = -4;
    public static final int WRONG_NAME = -5;
    public static final int FORMAT = -6;
    public static final int CIRCULAR = -7;
    public static final int KIND = -8;
    public static final int CONSTRAINT = -9;
    public static final int STUCK = -10;
    public static final int DENIED = -11;

    private static final int OWN = 1;
    private static final int ASK = 2;
    private static final int OTHER = 3;
    private static final int NOTHING = 4;
    private static final int DENY = 5;
    private static final int FIRST = 6;

    // Codes are negative and classes begin at 1, so 0 stands for no class, no answer and no code.
    private static final int NONE = 0;

    // Requests under way at once are for different loaders or names, so there are never more.
    private static final int DEEPEST = Loaders.LOADERS * Loaders.NAMES;

    private final Loaders loaders;
    private final Classes classes;
    private int begun;
    private int risingCause;
    private int lastFailure;
    private int lastCause;

    public LoaderLab() {
        loaders = new Loaders();
        classes = new Classes();
        begun = 0;
        risingCause = NONE;
        lastFailure = NONE;
        lastCause = NONE;
    }

    public int parent(int loader, int parent) {
        if (loader < 1 || loader >= Loaders.LOADERS || parent < Loaders.NO_PARENT || parent >= loader) {
            return REFUSED;
        }
        loaders.setParent(loader, parent);
        return 0;
    }

    public int file(int loader, int name, int parts, int marks) {
        if (!Loaders.inRange(loader, name) || !Loaders.isFile(parts, marks)) {
            return REFUSED;
        }
        loaders.putFile(loader, name, parts, marks);
        return 0;
    }

    public int noFile(int loader, int name) {
        if (!Loaders.inRange(loader, name) || !loaders.hasFile(loader, name)) {
            return REFUSED;
        }
        loaders.dropFile(loader, name);
        return 0;
    }

    public int script(int loader, int name, int way, int m) {
        if (!Loaders.inRange(loader, name) || !isWay(way, m)) {
            return REFUSED;
        }
        loaders.setScript(loader, name, way, m);
        return 0;
    }

    public int load(int loader, int name) {
        if (!Loaders.inRange(loader, name)) {
            return REFUSED;
        }
        begun = 0;
        int answer = request(loader, name, 0);
        return endWith(answer, risingCause);
    }

    public int refer(int number, int reference, int name) {
        if (!classes.hasPlace(number, reference) || !Loaders.isName(name)
                || classes.keptFor(number, reference) != NONE) {
            return REFUSED;
        }
        classes.setReference(number, reference, name);
        return 0;
    }

    public int resolve(int number, int reference) {
        if (!classes.hasPlace(number, reference) || !classes.hasReference(number, reference)) {
            return REFUSED;
        }
        begun = 0;
        if (classes.keptFor(number, reference) == NONE) {
            int answer = resolveFrom(classes.loaderOf(number), classes.referredName(number, reference), 0);
            classes.keep(number, reference, answer, risingCause);
        }
        return endWith(classes.keptFor(number, reference), classes.keptCause(number, reference));
    }

    public int constrain(int a, int b, int name) {
        if (!Loaders.inRange(a, name) || !Loaders.inRange(b, name)) {
            return REFUSED;
        }
        return loaders.join(a, b, name) ? 0 : CONSTRAINT;
    }

    public boolean agree(int a, int b, int name) {
        return Loaders.inRange(a, name) && Loaders.inRange(b, name) && loaders.arePeers(a, b, name);
    }

    public int cause(int k) {
        int code = k == 0 ? lastFailure : k == 1 ? lastCause : NONE;
        return code == NONE ? REFUSED : code;
    }

    public int requests() {
        return begun;
    }

    public int recorded(int loader, int name) {
        return Loaders.inRange(loader, name) ? loaders.recordOf(loader, name) : REFUSED;
    }

    public int of(int number, int what) {
        if (!classes.has(number)) {
            return REFUSED;
        }
        switch (what) {
            case 0:
                return classes.nameOf(number);
            case 1:
                return classes.loaderOf(number);
            case 2:
                return classes.superclassOf(number);
            case 3:
                return classes.interfaceOf(number);
            case 4:
                return classes.marksOf(number);
            case 5:
            case 6:
            case 7:
            case 8:
                return classes.keptFor(number, what - 5);
            default:
                return REFUSED;
        }
    }

    public boolean isA(int number, int other) {
        return classes.has(number) && classes.has(other) && classes.leadsTo(number, other);
    }

    public int count(int what) {
        switch (what) {
            case 0:
                return classes.size();
            case 1:
                return loaders.countRecords();
            case 2:
                return loaders.countFiles();
            case 3:
                return loaders.countPeers();
            default:
                return REFUSED;
        }
    }

    private static boolean isWay(int way, int m) {
        switch (way) {
            case ASK:
                return Loaders.isLoader(m);
            case OTHER:
            case FIRST:
                return Loaders.isName(m);
            default:
                return way >= 0 && way <= FIRST;
        }
    }

    private int endWith(int answer, int cause) {
        lastFailure = answer < 0 ? answer : NONE;
        lastCause = answer < 0 ? cause : NONE;
        return answer;
    }

    private int fail(int code) {
        return failBecause(code, NONE);
    }

    // One failure rises at a time, and none is made while it does: so one place for its cause is enough.
    private int failBecause(int code, int cause) {
        risingCause = cause;
        return code;
    }

    private int request(int loader, int name, int depth) {
        begun++;
        int known = loaders.recordOf(loader, name);
        if (known != NONE) {
            return known;
        }
        if (loaders.isUnderWay(loader, name) || depth >= DEEPEST) {
            return fail(STUCK);
        }
        loaders.setUnderWay(loader, name, true);
        int answer = followScript(loader, name, depth);
        loaders.setUnderWay(loader, name, false);
        return answer < 0 ? answer : accept(loader, name, answer);
    }

    private int accept(int loader, int name, int answer) {
        if (answer == NONE) {
            return fail(NO_CLASS);
        }
        if (classes.nameOf(answer) != name) {
            return fail(WRONG_NAME);
        }
        if (loaders.peersDiffer(loader, name, answer)) {
            return fail(CONSTRAINT);
        }
        loaders.putRecord(loader, name, answer);
        return answer;
    }

    private int followScript(int loader, int name, int depth) {
        int m = loaders.scriptNumber(loader, name);
        switch (loaders.scriptWay(loader, name)) {
            case OWN:
                return loaders.hasFile(loader, name) ? define(loader, name, depth) : askParent(loader, name, depth);
            case ASK:
                return request(m, name, depth + 1);
            case OTHER:
                return request(loader, m, depth + 1);
            case NOTHING:
                return NONE;
            case DENY:
                return fail(DENIED);
            case FIRST:
                int unused = request(loader, m, depth + 1);
                return unused < 0 ? unused : askParentThenDefine(loader, name, depth);
            default:
                return askParentThenDefine(loader, name, depth);
        }
    }

    private int askParentThenDefine(int loader, int name, int depth) {
        int answer = askParent(loader, name, depth);
        return answer == NOT_FOUND ? define(loader, name, depth) : answer;
    }

    private int askParent(int loader, int name, int depth) {
        int parent = loaders.parentOf(loader);
        return parent == Loaders.NO_PARENT ? fail(NOT_FOUND) : request(parent, name, depth + 1);
    }

    private int define(int loader, int name, int depth) {
        if (!loaders.hasFile(loader, name)) {
            return fail(NOT_FOUND);
        }
        int marks = loaders.fileMarks(loader, name);
        if ((marks & Loaders.BROKEN) != 0) {
            return fail(FORMAT);
        }
        if (loaders.fileSays(loader, name) != name) {
            return fail(WRONG_NAME);
        }
        int above = resolvePart(loader, loaders.fileSuperclass(loader, name), depth);
        if (above < 0) {
            return above;
        }
        if (above != NONE && (classes.marksOf(above) & (Loaders.INTERFACE | Loaders.FINAL)) != 0) {
            return fail(KIND);
        }
        int face = resolvePart(loader, loaders.fileInterface(loader, name), depth);
        if (face < 0) {
            return face;
        }
        if (face != NONE && (classes.marksOf(face) & Loaders.INTERFACE) == 0) {
            return fail(KIND);
        }
        if (classes.size() >= Classes.MOST) {
            return fail(FULL);
        }
        return classes.add(name, loader, above, face, marks);
    }

    private int resolvePart(int loader, int name, int depth) {
        if (name == Loaders.NO_NAME) {
            return NONE;
        }
        if (loaders.isUnderWay(loader, name)) {
            return fail(CIRCULAR);
        }
        return resolveFrom(loader, name, depth + 1);
    }

    private int resolveFrom(int loader, int name, int depth) {
        int answer = request(loader, name, depth);
        return answer == NOT_FOUND ? failBecause(NO_CLASS, NOT_FOUND) : answer;
    }

    /** What each loader has for each name: one row for each kind of thing, one cell for a loader and a name. */
    private static final class Loaders {
        static final int LOADERS = 5;
        static final int NAMES = 8;
        static final int NO_PARENT = -1;
        static final int NO_NAME = 8;
        static final int INTERFACE = 1;
        static final int FINAL = 2;
        static final int BROKEN = 4;

        private static final int CELLS = LOADERS * NAMES;
        private static final int NO_FILE = -1;
        // A file's parts are three digits to this base: what it says, its superclass, its interface.
        private static final int PART = 9;
        private static final int MOST_PARTS = PART * PART * PART - 1;
        private static final int MOST_MARKS = 7;

        private final int[] parents = new int[LOADERS];
        private final int[] parts = new int[CELLS];
        private final int[] marks = new int[CELLS];
        private final int[] ways = new int[CELLS];
        private final int[] numbers = new int[CELLS];
        private final int[] records = new int[CELLS];
        private final boolean[] underWay = new boolean[CELLS];
        // Bit l is set if the cell's loader must agree with the loader l on the cell's name.
        private final int[] peers = new int[CELLS];

        Loaders() {
            for (int loader = 0; loader < LOADERS; loader++) {
                parents[loader] = NO_PARENT;
            }
            for (int cell = 0; cell < CELLS; cell++) {
                parts[cell] = NO_FILE;
                peers[cell] = 1 << (cell / NAMES);
            }
        }

        static boolean isLoader(int loader) {
            return loader >= 0 && loader < LOADERS;
        }

        static boolean isName(int name) {
            return name >= 0 && name < NAMES;
        }

        static boolean inRange(int loader, int name) {
            return isLoader(loader) && isName(name);
        }

        static boolean isFile(int parts, int marks) {
            return parts >= 0 && parts <= MOST_PARTS && isName(parts % PART) && marks >= 0 && marks <= MOST_MARKS;
        }

        private static int cell(int loader, int name) {
            return loader * NAMES + name;
        }

        int parentOf(int loader) {
            return parents[loader];
        }

        void setParent(int loader, int parent) {
            parents[loader] = parent;
        }

        boolean hasFile(int loader, int name) {
            return parts[cell(loader, name)] != NO_FILE;
        }

        void putFile(int loader, int name, int fileParts, int fileMarks) {
            parts[cell(loader, name)] = fileParts;
            marks[cell(loader, name)] = fileMarks;
        }

        void dropFile(int loader, int name) {
            parts[cell(loader, name)] = NO_FILE;
        }

        int fileSays(int loader, int name) {
            return parts[cell(loader, name)] % PART;
        }

        int fileSuperclass(int loader, int name) {
            return parts[cell(loader, name)] / PART % PART;
        }

        int fileInterface(int loader, int name) {
            return parts[cell(loader, name)] / (PART * PART);
        }

        int fileMarks(int loader, int name) {
            return marks[cell(loader, name)];
        }

        int scriptWay(int loader, int name) {
            return ways[cell(loader, name)];
        }

        int scriptNumber(int loader, int name) {
            return numbers[cell(loader, name)];
        }

        void setScript(int loader, int name, int way, int m) {
            ways[cell(loader, name)] = way;
            numbers[cell(loader, name)] = m;
        }

        int recordOf(int loader, int name) {
            return records[cell(loader, name)];
        }

        void putRecord(int loader, int name, int number) {
            records[cell(loader, name)] = number;
        }

        boolean isUnderWay(int loader, int name) {
            return underWay[cell(loader, name)];
        }

        void setUnderWay(int loader, int name, boolean is) {
            underWay[cell(loader, name)] = is;
        }

        boolean arePeers(int a, int b, int name) {
            return holds(peers[cell(a, name)], b);
        }

        boolean peersDiffer(int loader, int name, int number) {
            return differ(peers[cell(loader, name)], name, number);
        }

        /** Makes two loaders agree, and with them all that agree with either; false, and nothing, if that breaks. */
        boolean join(int a, int b, int name) {
            int all = peers[cell(a, name)] | peers[cell(b, name)];
            if (differ(all, name, anyRecord(all, name))) {
                return false;
            }
            for (int loader = 0; loader < LOADERS; loader++) {
                if (holds(all, loader)) {
                    peers[cell(loader, name)] = all;
                }
            }
            return true;
        }

        int countRecords() {
            int found = 0;
            for (int cell = 0; cell < CELLS; cell++) {
                found += records[cell] != NONE ? 1 : 0;
            }
            return found;
        }

        int countFiles() {
            int found = 0;
            for (int cell = 0; cell < CELLS; cell++) {
                found += parts[cell] != NO_FILE ? 1 : 0;
            }
            return found;
        }

        int countPeers() {
            int found = 0;
            for (int cell = 0; cell < CELLS; cell++) {
                for (int greater = cell / NAMES + 1; greater < LOADERS; greater++) {
                    found += holds(peers[cell], greater) ? 1 : 0;
                }
            }
            return found;
        }

        private static boolean holds(int set, int loader) {
            return (set >> loader & 1) != 0;
        }

        private int anyRecord(int set, int name) {
            int any = NONE;
            for (int loader = 0; loader < LOADERS; loader++) {
                if (holds(set, loader) && recordOf(loader, name) != NONE) {
                    any = recordOf(loader, name);
                }
            }
            return any;
        }

        private boolean differ(int set, int name, int number) {
            for (int loader = 0; loader < LOADERS; loader++) {
                int record = recordOf(loader, name);
                if (holds(set, loader) && record != NONE && record != number) {
                    return true;
                }
            }
            return false;
        }
    }

    /** The classes that were defined, by number, with their references and what is kept for these. */
    private static final class Classes {
        static final int MOST = 30;

        private static final int REFERENCES = 4;
        private static final int PLACES = (MOST + 1) * REFERENCES;

        private int defined = 0;
        private final int[] names = new int[MOST + 1];
        private final int[] definers = new int[MOST + 1];
        private final int[] superclasses = new int[MOST + 1];
        private final int[] interfaces = new int[MOST + 1];
        private final int[] marks = new int[MOST + 1];
        private final int[] referred = new int[PLACES];
        private final int[] kept = new int[PLACES];
        private final int[] keptCauses = new int[PLACES];

        Classes() {
            for (int place = 0; place < PLACES; place++) {
                referred[place] = Loaders.NO_NAME;
            }
        }

        int size() {
            return defined;
        }

        boolean has(int number) {
            return number >= 1 && number <= defined;
        }

        /** The number of the new class; only for fewer than MOST. */
        int add(int name, int loader, int superclass, int face, int fileMarks) {
            defined++;
            names[defined] = name;
            definers[defined] = loader;
            superclasses[defined] = superclass;
            interfaces[defined] = face;
            marks[defined] = fileMarks;
            return defined;
        }

        int nameOf(int number) {
            return names[number];
        }

        int loaderOf(int number) {
            return definers[number];
        }

        int superclassOf(int number) {
            return superclasses[number];
        }

        int interfaceOf(int number) {
            return interfaces[number];
        }

        int marksOf(int number) {
            return marks[number];
        }

        // What a class stands on was defined before it: so one sweep down the numbers finds all of it.
        boolean leadsTo(int number, int other) {
            int met = 1 << number;
            for (int each = number; each > other; each--) {
                if ((met >> each & 1) != 0) {
                    met |= 1 << superclasses[each] | 1 << interfaces[each];
                }
            }
            return (met >> other & 1) != 0;
        }

        boolean hasPlace(int number, int reference) {
            return has(number) && reference >= 0 && reference < REFERENCES;
        }

        boolean hasReference(int number, int reference) {
            return referredName(number, reference) != Loaders.NO_NAME;
        }

        int referredName(int number, int reference) {
            return referred[place(number, reference)];
        }

        void setReference(int number, int reference, int name) {
            referred[place(number, reference)] = name;
        }

        int keptFor(int number, int reference) {
            return kept[place(number, reference)];
        }

        int keptCause(int number, int reference) {
            return keptCauses[place(number, reference)];
        }

        void keep(int number, int reference, int answer, int cause) {
            kept[place(number, reference)] = answer;
            keptCauses[place(number, reference)] = cause;
        }

        private static int place(int number, int reference) {
            return number * REFERENCES + reference;
        }
    }
}

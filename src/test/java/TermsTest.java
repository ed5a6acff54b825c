/** The document's sections "What it is" and "Terms", sentence by sentence: each has a test of its own here. */
public final class TermsTest {
    private static final int NONE = Check.NONE;
    private static final int ASK = 2;
    private static final int OTHER = 3;
    private static final int NOTHING = 4;
    private static final int DENY = 5;
    private static final int FIRST = 6;

    private static final Check check = new Check();

    public static void main(String[] args) {
        atMost512Calls();
        loadersZeroToFour();
        atFirstNoParent();
        parentsHaveLesserNumbers();
        namesZeroToSeven();
        partsOfFiles();
        marksOfFiles();
        numberedAsTheyAreDefined();
        atMostThirty();
        aClassAndItsFile();
        neverAnotherOneLater();
        scriptsAtFirst();
        recordedComesFirst();
        underWayIsStuck();
        underWayNoMore();
        wayParent();
        wayOwn();
        wayAsk();
        wayOther();
        wayNothingAndDeny();
        wayFirst();
        failuresComeUp();
        notFoundOfAParentAlone();
        noAnswerAndWrongNames();
        recordingUnlessItBreaks();
        definingInOrder();
        circularOrStuck();
        kinds();
        fullComesLast();
        interfacesMayHaveSuperclasses();
        resolving();
        fourReferences();
        keptEverAfter();
        fromLoaderToLoader();
        everyRequestCounts();
        check.end();
    }

    private static void load(LoaderLab lab, int loader, int name, int want, int cause, int requests) {
        String call = "load(" + loader + ", " + name + ")";
        check.due(call, lab.load(loader, name), want);
        check.due(call + ", cause(0)", lab.cause(0), want < 0 ? want : LoaderLab.REFUSED);
        check.due(call + ", cause(1)", lab.cause(1), cause);
        check.due(call + ", requests", lab.requests(), requests);
    }

    private static void load(LoaderLab lab, int loader, int name, int want, int requests) {
        load(lab, loader, name, want, LoaderLab.REFUSED, requests);
    }

    /** 40 files, 30 classes, 80 pairs and 120 references kept: as full as it can be, and so up to its last call. */
    private static void atMost512Calls() {
        check.about("\"at most 512 calls\"");
        LoaderLab lab = Prepare.filesEverywhere();
        int calls = 40;
        for (int name = 0; name < 8; name++) {
            for (int loader = 1; loader < 5; loader++) {
                check.due("constrain", lab.constrain(loader - 1, loader, name), 0);
            }
            check.due("load", lab.load(name % 5, name), name + 1);
            calls += 5;
        }
        for (int number = 9; number <= 30; number++) {
            check.due("load", lab.load(1, 0), LoaderLab.CONSTRAINT);
            calls++;
        }
        for (int number = 1; number <= 30; number++) {
            for (int reference = 0; reference < 4; reference++) {
                check.due("refer", lab.refer(number, reference, number % 5), 0);
                int want = lab.of(number, 1) == number % 5 ? number % 5 + 1 : LoaderLab.FULL;
                check.due("resolve", lab.resolve(number, reference), want);
                calls += 3;
            }
        }
        check.due("classes", lab.count(0), 30);
        check.due("files", lab.count(2), 40);
        check.due("pairs", lab.count(3), 80);
        for (calls += 3; calls < 511; calls++) {
            check.due("kept", lab.resolve(4, calls % 4), LoaderLab.FULL);
        }
        check.due("call 512", lab.resolve(4, 3), LoaderLab.FULL);
    }

    private static void loadersZeroToFour() {
        check.about("\"LOADERS 0 .. 4\"");
        for (int loader = 0; loader < 5; loader++) {
            LoaderLab lab = Prepare.filesEverywhere();
            check.due("file", lab.file(loader, 3, Check.plain(3), 0), 0);
            check.due("script", lab.script(loader, 3, 0, 0), 0);
            check.due("script ASK", lab.script(1, 4, ASK, loader), 0);
            check.due("constrain", lab.constrain(loader, 2, 3), 0);
            check.due("constrain", lab.constrain(2, loader, 3), 0);
            check.due("agree", lab.agree(loader, 2, 3), true);
            check.due("agree", lab.agree(2, loader, 3), true);
            check.due("load", lab.load(loader, 3), 1);
            check.due("recorded", lab.recorded(loader, 3), 1);
            check.due("noFile", lab.noFile(loader, 3), 0);
        }
        LoaderLab lab = Prepare.filesEverywhere();
        for (int loader : Prepare.NO_LOADERS) {
            check.due("file", lab.file(loader, 3, Check.plain(3), 0), LoaderLab.REFUSED);
            check.due("script", lab.script(loader, 3, 0, 0), LoaderLab.REFUSED);
            check.due("script ASK", lab.script(1, 4, ASK, loader), LoaderLab.REFUSED);
            check.due("constrain", lab.constrain(loader, 2, 3), LoaderLab.REFUSED);
            check.due("constrain", lab.constrain(2, loader, 3), LoaderLab.REFUSED);
            check.due("agree", lab.agree(loader, 2, 3), false);
            check.due("agree", lab.agree(2, loader, 3), false);
            check.due("load", lab.load(loader, 3), LoaderLab.REFUSED);
            check.due("recorded", lab.recorded(loader, 3), LoaderLab.REFUSED);
            check.due("noFile", lab.noFile(loader, 3), LoaderLab.REFUSED);
            check.due("parent", lab.parent(loader, -1), LoaderLab.REFUSED);
        }
    }

    private static void atFirstNoParent() {
        check.about("\"a PARENT .. (at first none)\"");
        LoaderLab lab = new LoaderLab();
        for (int loader = 0; loader < 5; loader++) {
            load(lab, loader, 0, LoaderLab.NOT_FOUND, 1);
        }
    }

    private static void parentsHaveLesserNumbers() {
        check.about("\"a PARENT, a loader with a lesser number, or none\"");
        for (int loader = 1; loader < 5; loader++) {
            for (int parent = 0; parent < loader; parent++) {
                LoaderLab lab = new LoaderLab();
                lab.file(parent, 0, Check.plain(0), 0);
                check.due("lesser", lab.parent(loader, parent), 0);
                load(lab, loader, 0, 1, 2);
                check.due("none", lab.parent(loader, -1), 0);
                load(lab, loader, 1, LoaderLab.NOT_FOUND, 1);
            }
            for (int parent = loader; parent < 6; parent++) {
                LoaderLab lab = new LoaderLab();
                check.due("not lesser", lab.parent(loader, parent), LoaderLab.REFUSED);
                load(lab, loader, 0, LoaderLab.NOT_FOUND, 1);
            }
        }
    }

    private static void namesZeroToSeven() {
        check.about("\"NAMES 0 .. 7\"");
        LoaderLab lab = Prepare.filesEverywhere();
        for (int name = 0; name < 8; name++) {
            check.due("file", lab.file(2, name, Check.plain(name), 0), 0);
            check.due("script", lab.script(2, name, 0, 0), 0);
            check.due("script OTHER", lab.script(1, 3, OTHER, name), 0);
            check.due("script FIRST", lab.script(1, 3, FIRST, name), 0);
            check.due("constrain", lab.constrain(3, 4, name), 0);
            check.due("agree", lab.agree(3, 4, name), true);
            check.due("load", lab.load(2, name), name + 1);
            check.due("recorded", lab.recorded(2, name), name + 1);
            check.due("noFile", lab.noFile(2, name), 0);
            check.due("refer", lab.refer(1, 0, name), 0);
        }
        for (int name : Prepare.NO_NAMES) {
            check.due("file", lab.file(2, name, Check.plain(0), 0), LoaderLab.REFUSED);
            check.due("script", lab.script(2, name, 0, 0), LoaderLab.REFUSED);
            check.due("script OTHER", lab.script(1, 3, OTHER, name), LoaderLab.REFUSED);
            check.due("script FIRST", lab.script(1, 3, FIRST, name), LoaderLab.REFUSED);
            check.due("constrain", lab.constrain(3, 4, name), LoaderLab.REFUSED);
            check.due("agree", lab.agree(3, 4, name), false);
            check.due("load", lab.load(2, name), LoaderLab.REFUSED);
            check.due("recorded", lab.recorded(2, name), LoaderLab.REFUSED);
            check.due("noFile", lab.noFile(2, name), LoaderLab.REFUSED);
            check.due("refer", lab.refer(1, 0, name), LoaderLab.REFUSED);
        }
    }

    /** Every superclass and interface, none of both among them, comes out of a file as it went in. */
    private static void partsOfFiles() {
        check.about("\"the name that it says, a superclass's name or none (8), an interface's name or none (8)\"");
        for (int superclass = 0; superclass <= NONE; superclass++) {
            for (int face = 0; face <= NONE; face++) {
                if (superclass != 3 && face != 3 && (superclass != face || face == NONE)) {
                    LoaderLab lab = new LoaderLab();
                    lab.file(0, superclass, Check.plain(superclass & 7), 0);
                    lab.file(0, face, Check.plain(face & 7), 1);
                    check.due("file", lab.file(0, 3, Check.parts(3, superclass, face), 0), 0);
                    int parts = (superclass == NONE ? 0 : 1) + (face == NONE ? 0 : 1);
                    load(lab, 0, 3, parts + 1, parts + 1);
                    check.due("superclass", lab.of(parts + 1, 2), lab.recorded(0, superclass) > 0 ? 1 : 0);
                    check.due("interface", lab.of(parts + 1, 3), lab.recorded(0, face) > 0 ? parts : 0);
                }
            }
        }
        for (int says = 0; says < 8; says++) {
            LoaderLab lab = new LoaderLab();
            lab.file(0, 3, Check.plain(says), 0);
            load(lab, 0, 3, says == 3 ? 1 : LoaderLab.WRONG_NAME, 1);
        }
    }

    private static void marksOfFiles() {
        check.about("\"MARKS: 1 an interface, 2 final, 4 broken\"");
        for (int marks = 0; marks < 8; marks++) {
            boolean broken = marks >= 4;
            LoaderLab lab = new LoaderLab();
            lab.file(0, 0, Check.plain(0), marks);
            lab.file(0, 1, Check.parts(1, 0, NONE), 0);
            lab.file(0, 2, Check.parts(2, NONE, 0), 0);
            load(lab, 0, 0, broken ? LoaderLab.FORMAT : 1, 1);
            load(lab, 0, 1, broken ? LoaderLab.FORMAT : marks == 0 ? 2 : LoaderLab.KIND, 2);
            boolean isInterface = marks % 2 == 1;
            load(lab, 0, 2, broken ? LoaderLab.FORMAT : isInterface ? 2 : LoaderLab.KIND, 2);
            check.due("marks", lab.of(1, 4), broken ? LoaderLab.REFUSED : marks);
        }
    }

    private static void numberedAsTheyAreDefined() {
        check.about("\"CLASSES are numbered 1, 2, .. as they are defined\"");
        LoaderLab lab = new LoaderLab();
        lab.file(0, 5, Check.parts(5, 6, 7), 0);
        lab.file(0, 6, Check.parts(6, 4, NONE), 0);
        lab.file(0, 7, Check.plain(7), 1);
        lab.file(0, 4, Check.plain(4), 0);
        check.due("class 0", lab.of(0, 0), LoaderLab.REFUSED);
        check.due("class 1", lab.of(1, 0), LoaderLab.REFUSED);
        load(lab, 0, 5, 4, 4);
        int[] names = {4, 6, 7, 5};
        for (int number = 1; number <= 4; number++) {
            check.due("name of class " + number, lab.of(number, 0), names[number - 1]);
        }
        check.due("class 0", lab.of(0, 0), LoaderLab.REFUSED);
        check.due("class 5", lab.of(5, 0), LoaderLab.REFUSED);
    }

    private static void atMostThirty() {
        check.about("\"CLASSES .. at most 30\"");
        LoaderLab lab = Prepare.filesEverywhere();
        for (int number = 1; number <= 30; number++) {
            load(lab, (number - 1) / 8, (number - 1) % 8, number, 1);
            check.due("classes", lab.count(0), number);
        }
        for (int cell = 30; cell < 40; cell++) {
            load(lab, cell / 8, cell % 8, LoaderLab.FULL, 1);
            check.due("not recorded", lab.recorded(cell / 8, cell % 8), 0);
        }
        check.due("classes", lab.count(0), 30);
        check.due("recorded", lab.count(1), 30);
        check.due("the thirtieth", lab.of(30, 0), 5);
        check.due("no other", lab.of(31, 0), LoaderLab.REFUSED);
        load(lab, 3, 5, 30, 1);
        lab.script(4, 5, ASK, 3);
        load(lab, 4, 5, 30, 2);
        check.due("classes are recorded yet", lab.recorded(4, 5), 30);
    }

    private static void aClassAndItsFile() {
        check.about("\"each with a name, the loader that defined it, its superclass (0 none), its interface ..\"");
        LoaderLab lab = new LoaderLab();
        lab.file(4, 7, Check.plain(7), 3);
        lab.parent(4, 0);
        load(lab, 4, 7, 1, 2);
        lab.file(4, 7, Check.parts(7, 6, 5), 0);
        lab.file(0, 7, Check.plain(7), 1);
        int[] want = {7, 4, 0, 0, 3};
        for (int what = 0; what < 5; what++) {
            check.due("of(1, " + what + "), the file being another now", lab.of(1, what), want[what]);
        }
        lab.noFile(4, 7);
        for (int what = 0; what < 5; what++) {
            check.due("of(1, " + what + "), the file being gone", lab.of(1, what), want[what]);
        }
    }

    private static void neverAnotherOneLater() {
        check.about("\"at most one class for a name, and never another one later\"");
        LoaderLab lab = Prepare.filesEverywhere();
        load(lab, 2, 0, 1, 1);
        lab.load(1, 0);
        lab.parent(2, 1);
        for (int way = 0; way <= 6; way++) {
            lab.script(2, 0, way, 1);
            load(lab, 2, 0, 1, 1);
            check.due("recorded, way " + way, lab.recorded(2, 0), 1);
        }
        lab.file(2, 0, Check.plain(1), 4);
        load(lab, 2, 0, 1, 1);
        lab.noFile(2, 0);
        load(lab, 2, 0, 1, 1);
        check.due("must agree with another", lab.constrain(1, 2, 0), LoaderLab.CONSTRAINT);
        load(lab, 2, 0, 1, 1);
        check.due("recorded in all", lab.count(1), 2);
    }

    private static void scriptsAtFirst() {
        check.about("\"(0, 0) at first\"");
        for (int loader = 1; loader < 5; loader++) {
            for (int name = 0; name < 8; name += 7) {
                LoaderLab lab = Prepare.filesEverywhere();
                lab.parent(loader, 0);
                load(lab, loader, name, 1, 2);
                check.due("as PARENT", lab.of(1, 1), 0);
            }
        }
    }

    private static void recordedComesFirst() {
        check.about("\"1. L has recorded a class for n: that one.\"");
        LoaderLab lab = Prepare.filesEverywhere();
        load(lab, 0, 0, 1, 1);
        lab.script(0, 0, DENY, 0);
        lab.script(1, 0, ASK, 0);
        load(lab, 1, 0, 1, 2);
        lab.script(0, 0, ASK, 0);
        lab.script(2, 0, ASK, 0);
        load(lab, 2, 0, 1, 2);
        // The class for the name 1 is recorded while FIRST goes on: its file's superclass is found recorded then.
        lab.file(3, 2, Check.parts(2, 1, NONE), 0);
        lab.script(3, 2, FIRST, 1);
        load(lab, 3, 2, 3, 3);
        check.due("superclass", lab.of(3, 2), 2);
    }

    private static void underWayIsStuck() {
        check.about("\"2. A request to L for n is under way: STUCK.\"");
        LoaderLab lab = Prepare.filesEverywhere();
        for (int loader = 0; loader < 5; loader++) {
            lab.script(loader, 0, ASK, (loader + 1) % 5);
            lab.script(loader, 1, ASK, loader);
            lab.script(loader, 2, OTHER, 2);
            lab.script(loader, 3, FIRST, 3);
        }
        load(lab, 2, 0, LoaderLab.STUCK, 6);
        load(lab, 4, 1, LoaderLab.STUCK, 2);
        load(lab, 4, 2, LoaderLab.STUCK, 2);
        load(lab, 4, 3, LoaderLab.STUCK, 2);
        for (int name = 0; name < 8; name++) {
            lab.script(1, name, OTHER, (name + 1) % 8);
        }
        load(lab, 1, 7, LoaderLab.STUCK, 9);
        // The same name asked of another loader, and another name of the same loader, are not under way.
        lab.script(3, 6, FIRST, 7);
        lab.script(3, 7, ASK, 2);
        load(lab, 3, 6, 2, 3);
    }

    /** What was under way in a load that failed is not under way in the next one. */
    private static void underWayNoMore() {
        check.about("\"is under way\", after a failure");
        for (int code : Prepare.CODES) {
            LoaderLab lab = new LoaderLab();
            Prepare.failing(lab, code);
            lab.script(1, 0, ASK, 0);
            for (int time = 0; time < 3; time++) {
                load(lab, 1, 0, code, 1 + Prepare.begunBy(code));
                load(lab, 0, 0, code, Prepare.begunBy(code));
            }
        }
        LoaderLab lab = Prepare.filesEverywhere();
        lab.script(0, 0, ASK, 0);
        load(lab, 0, 0, LoaderLab.STUCK, 2);
        lab.script(0, 0, 0, 0);
        load(lab, 0, 0, 1, 1);
    }

    private static void wayParent() {
        check.about("\"0 PARENT: .. if that ends with the code NOT_FOUND, or it has none: DEFINE n.\"");
        LoaderLab lab = new LoaderLab();
        lab.file(1, 0, Check.plain(0), 0);
        load(lab, 1, 0, 1, 1);
        lab.parent(1, 0);
        lab.file(1, 1, Check.plain(1), 0);
        load(lab, 1, 1, 2, 2);
        check.due("the parent has none: the child's", lab.of(2, 1), 1);
        lab.file(1, 2, Check.plain(2), 0);
        lab.file(0, 2, Check.plain(2), 0);
        load(lab, 1, 2, 3, 2);
        check.due("the parent has one: the parent's", lab.of(3, 1), 0);
        load(lab, 1, 3, LoaderLab.NOT_FOUND, 2);
        lab.parent(1, -1);
        load(lab, 1, 4, LoaderLab.NOT_FOUND, 1);
    }

    private static void wayOwn() {
        check.about("\"1 OWN: if it has a file for n, DEFINE n; else a request to its parent for n ..\"");
        LoaderLab lab = Check.labWithFiles();
        for (int name = 0; name < 8; name++) {
            lab.script(1, name, 1, 0);
        }
        lab.file(1, 0, Check.plain(0), 4);
        load(lab, 1, 0, LoaderLab.FORMAT, 1);
        load(lab, 1, 1, LoaderLab.NOT_FOUND, 1);
        lab.parent(1, 0);
        load(lab, 1, 0, LoaderLab.FORMAT, 1);
        load(lab, 1, 1, 1, 2);
        check.due("the parent's", lab.of(1, 1), 0);
        lab.file(1, 2, Check.plain(2), 0);
        load(lab, 1, 2, 2, 1);
        check.due("its own", lab.of(2, 1), 1);
        lab.noFile(1, 0);
        load(lab, 1, 0, 3, 2);
        lab.noFile(0, 3);
        load(lab, 1, 3, LoaderLab.NOT_FOUND, 2);
    }

    private static void wayAsk() {
        check.about("\"2 ASK: a request to the loader m for n.\"");
        for (int m = 0; m < 5; m++) {
            for (int loader = 0; loader < 5; loader++) {
                LoaderLab lab = Prepare.filesEverywhere();
                lab.script(loader, 7, ASK, m);
                load(lab, loader, 7, m == loader ? LoaderLab.STUCK : 1, 2);
                check.due("defined by m", lab.of(1, 1), m == loader ? LoaderLab.REFUSED : m);
            }
        }
        LoaderLab lab = Prepare.filesEverywhere();
        lab.parent(4, 0);
        lab.script(4, 0, ASK, 3);
        lab.noFile(3, 0);
        load(lab, 4, 0, LoaderLab.NOT_FOUND, 2);
    }

    private static void wayOther() {
        check.about("\"3 OTHER: a request to L itself for the name m.\"");
        for (int m = 0; m < 8; m++) {
            LoaderLab lab = Prepare.filesEverywhere();
            lab.script(2, 4, OTHER, m);
            load(lab, 2, 4, m == 4 ? LoaderLab.STUCK : LoaderLab.WRONG_NAME, 2);
            check.due("of the loader itself", lab.of(1, 1), m == 4 ? LoaderLab.REFUSED : 2);
            check.due("with the name m", lab.of(1, 0), m == 4 ? LoaderLab.REFUSED : m);
            check.due("recorded for m", lab.count(1), m == 4 ? 0 : 1);
        }
    }

    private static void wayNothingAndDeny() {
        check.about("\"4 NOTHING: there is no answer. 5 DENY: DENIED.\"");
        for (int m : new int[] {Integer.MIN_VALUE, -1, 0, 4, 7, 8, Integer.MAX_VALUE}) {
            LoaderLab lab = Prepare.filesEverywhere();
            lab.parent(1, 0);
            check.due("NOTHING", lab.script(1, 0, NOTHING, m), 0);
            check.due("DENY", lab.script(1, 1, DENY, m), 0);
            check.due("PARENT", lab.script(1, 2, 0, m), 0);
            check.due("OWN", lab.script(1, 3, 1, m), 0);
            load(lab, 1, 0, LoaderLab.NO_CLASS, 1);
            load(lab, 1, 1, LoaderLab.DENIED, 1);
            load(lab, 1, 2, 1, 2);
            load(lab, 1, 3, 2, 1);
        }
    }

    private static void wayFirst() {
        check.about("\"6 FIRST: a request to L itself for the name m, and what comes is not used; then as PARENT.\"");
        for (int m = 0; m < 8; m++) {
            LoaderLab lab = Prepare.filesEverywhere();
            lab.parent(3, 2);
            lab.script(3, 4, FIRST, m);
            lab.script(3, m == 4 ? 5 : m, m == 4 ? FIRST : 1, 4);
            load(lab, 3, 4, m == 4 ? LoaderLab.STUCK : 2, m == 4 ? 2 : 3);
            check.due("m's", lab.of(1, 0), m == 4 ? LoaderLab.REFUSED : m);
            check.due("m's loader", lab.of(1, 1), m == 4 ? LoaderLab.REFUSED : 3);
            check.due("n's loader, the parent", lab.of(2, 1), m == 4 ? LoaderLab.REFUSED : 2);
        }
        LoaderLab lab = Prepare.filesEverywhere();
        lab.script(0, 0, FIRST, 1);
        lab.noFile(0, 1);
        load(lab, 0, 0, LoaderLab.NOT_FOUND, 2);
        check.due("its own file is not used then", lab.count(0), 0);
        lab.noFile(0, 0);
        lab.file(0, 1, Check.plain(1), 0);
        load(lab, 0, 0, LoaderLab.NOT_FOUND, 2);
        check.due("the first one stays", lab.recorded(0, 1), 1);
    }

    /** Each code comes up by each way; loader 1 and the name 1 ask loader 0 for the name 0. */
    private static void failuresComeUp() {
        check.about("\"A failure that comes up on the way is that of the request\"");
        for (int code : Prepare.CODES) {
            LoaderLab lab = new LoaderLab();
            Prepare.failing(lab, code);
            int begun = 1 + Prepare.begunBy(code);
            lab.script(1, 0, ASK, 0);
            load(lab, 1, 0, code, begun);
            lab.parent(1, 0);
            lab.script(1, 0, 1, 0);
            load(lab, 1, 0, code, begun);
            lab.script(1, 0, 0, 0);
            load(lab, 1, 0, code, begun);
            lab.file(0, 1, Check.plain(1), 0);
            lab.script(0, 1, OTHER, 0);
            load(lab, 0, 1, code, begun);
            lab.script(0, 1, FIRST, 0);
            load(lab, 0, 1, code, begun);
            check.due("not recorded", lab.recorded(0, 1), 0);
        }
        LoaderLab lab = new LoaderLab();
        lab.file(0, 0, Check.parts(0, 1, NONE), 0);
        lab.parent(1, 0);
        lab.script(2, 0, ASK, 1);
        lab.parent(3, 2);
        load(lab, 3, 0, LoaderLab.NO_CLASS, LoaderLab.NOT_FOUND, 5);
    }

    private static void notFoundOfAParentAlone() {
        check.about("\"(but NOT_FOUND of a PARENT, as said)\"");
        for (int code : Prepare.CODES) {
            LoaderLab lab = new LoaderLab();
            Prepare.failing(lab, code);
            lab.parent(1, 0);
            lab.file(1, 0, Check.plain(0), 0);
            boolean found = code == LoaderLab.NOT_FOUND;
            load(lab, 1, 0, found ? 1 : code, 1 + Prepare.begunBy(code));
        }
        // A superclass that the parent lacks is NO_CLASS there: no NOT_FOUND, though caused by one.
        LoaderLab lab = new LoaderLab();
        lab.file(0, 0, Check.parts(0, 1, NONE), 0);
        lab.parent(1, 0);
        lab.file(1, 0, Check.plain(0), 0);
        load(lab, 1, 0, LoaderLab.NO_CLASS, LoaderLab.NOT_FOUND, 3);
    }

    private static void noAnswerAndWrongNames() {
        check.about("\"4. There is no answer: NO_CLASS. The answer's name is not n: WRONG_NAME.\"");
        LoaderLab lab = Prepare.filesEverywhere();
        lab.script(0, 0, NOTHING, 0);
        load(lab, 0, 0, LoaderLab.NO_CLASS, 1);
        lab.parent(1, 0);
        load(lab, 1, 0, LoaderLab.NO_CLASS, 2);
        lab.script(0, 1, OTHER, 2);
        load(lab, 0, 1, LoaderLab.WRONG_NAME, 2);
        load(lab, 1, 1, LoaderLab.WRONG_NAME, 3);
        check.due("recorded for its own name alone", lab.recorded(0, 2), 1);
        check.due("recorded", lab.count(1), 1);
        // The constraint would be broken too: the name is looked at before.
        lab.load(4, 1);
        lab.constrain(4, 0, 1);
        load(lab, 0, 1, LoaderLab.WRONG_NAME, 2);
    }

    private static void recordingUnlessItBreaks() {
        check.about("\"5. L records the answer for n, unless that breaks a constraint: CONSTRAINT.\"");
        LoaderLab lab = Prepare.filesEverywhere();
        load(lab, 0, 0, 1, 1);
        check.due("recorded", lab.recorded(0, 0), 1);
        lab.constrain(0, 1, 0);
        lab.constrain(1, 2, 0);
        load(lab, 2, 0, LoaderLab.CONSTRAINT, 1);
        check.due("not recorded", lab.recorded(2, 0), 0);
        check.due("defined all the same", lab.count(0), 2);
        lab.script(3, 0, ASK, 2);
        load(lab, 3, 0, LoaderLab.CONSTRAINT, 2);
        check.due("not recorded by who asked", lab.recorded(3, 0), 0);
        lab.script(2, 0, ASK, 4);
        load(lab, 2, 0, LoaderLab.CONSTRAINT, 2);
        check.due("recorded by who was asked", lab.recorded(4, 0), 4);
        lab.script(2, 0, ASK, 0);
        load(lab, 2, 0, 1, 2);
        check.due("the same class", lab.recorded(2, 0), 1);
        lab.constrain(0, 1, 1);
        load(lab, 0, 1, 5, 1);
        check.due("agreeing records nothing for the other", lab.recorded(1, 1), 0);
        load(lab, 2, 1, 6, 1);
        check.due("who need not agree records another", lab.recorded(2, 1), 6);
    }

    /** Each fault of a file is put right in turn, and the next one shows. */
    private static void definingInOrder() {
        check.about("\"DEFINE n in L\", in its order");
        LoaderLab lab = new LoaderLab();
        load(lab, 0, 0, LoaderLab.NOT_FOUND, 1);
        lab.file(0, 0, Check.parts(1, 0, 0), 4);
        load(lab, 0, 0, LoaderLab.FORMAT, 1);
        lab.file(0, 0, Check.parts(1, 0, 0), 0);
        load(lab, 0, 0, LoaderLab.WRONG_NAME, 1);
        lab.file(0, 0, Check.parts(0, 0, 3), 0);
        load(lab, 0, 0, LoaderLab.CIRCULAR, 1);
        lab.file(0, 0, Check.parts(0, 2, 3), 0);
        lab.script(0, 3, DENY, 0);
        load(lab, 0, 0, LoaderLab.NO_CLASS, LoaderLab.NOT_FOUND, 2);
        lab.file(0, 2, Check.plain(2), 2);
        load(lab, 0, 0, LoaderLab.KIND, 2);
        lab.file(0, 4, Check.plain(4), 0);
        lab.file(0, 0, Check.parts(0, 4, 3), 0);
        load(lab, 0, 0, LoaderLab.DENIED, 3);
        lab.script(0, 3, 0, 0);
        load(lab, 0, 0, LoaderLab.NO_CLASS, LoaderLab.NOT_FOUND, 3);
        lab.file(0, 3, Check.plain(3), 2);
        load(lab, 0, 0, LoaderLab.KIND, 3);
        lab.file(0, 0, Check.parts(0, 4, 0), 0);
        load(lab, 0, 0, LoaderLab.CIRCULAR, 2);
        lab.file(0, 5, Check.plain(5), 1);
        lab.file(0, 0, Check.parts(0, 4, 5), 0);
        load(lab, 0, 0, 5, 3);
    }

    private static void circularOrStuck() {
        check.about("\"but if a request to L for it is under way: CIRCULAR\"");
        LoaderLab lab = new LoaderLab();
        lab.file(0, 0, Check.parts(0, 0, NONE), 0);
        load(lab, 0, 0, LoaderLab.CIRCULAR, 1);
        lab.file(0, 0, Check.parts(0, NONE, 0), 1);
        load(lab, 0, 0, LoaderLab.CIRCULAR, 1);
        for (int name = 0; name < 8; name++) {
            lab.file(0, name, Check.parts(name, (name + 1) % 8, NONE), 0);
        }
        load(lab, 0, 5, LoaderLab.CIRCULAR, 8);
        // Under way in the child alone: loader 0 may be asked for it, and asks back.
        lab = new LoaderLab();
        lab.file(0, 0, Check.parts(0, 1, NONE), 0);
        lab.file(0, 1, Check.plain(1), 0);
        lab.parent(1, 0);
        lab.script(1, 1, OTHER, 0);
        lab.script(0, 1, ASK, 1);
        load(lab, 1, 0, LoaderLab.STUCK, 5);
        lab.script(0, 1, 0, 0);
        load(lab, 1, 0, 2, 3);
        // Recorded in the child's parent, under way in the child: still a circle of the child.
        lab = Check.labWithFiles();
        lab.load(0, 0);
        lab.file(1, 0, Check.parts(0, 0, NONE), 0);
        load(lab, 1, 0, LoaderLab.CIRCULAR, 1);
    }

    private static void kinds() {
        check.about("\"The superclass is an interface, or final: KIND; the interface is none: KIND\"");
        for (int above = 0; above < 4; above++) {
            for (int face = 0; face < 4; face++) {
                LoaderLab lab = new LoaderLab();
                lab.file(0, 1, Check.plain(1), above);
                lab.file(0, 2, Check.plain(2), face);
                lab.file(0, 0, Check.parts(0, 1, 2), 0);
                boolean extendable = above == 0;
                boolean isInterface = face % 2 == 1;
                load(lab, 0, 0, extendable && isInterface ? 3 : LoaderLab.KIND, extendable ? 3 : 2);
                check.due("each when it was resolved", lab.recorded(0, 2), extendable ? 2 : 0);
            }
        }
        LoaderLab lab = new LoaderLab();
        lab.file(0, 1, Check.plain(1), 0);
        lab.load(0, 1);
        lab.file(0, 1, Check.plain(1), 1);
        lab.file(0, 0, Check.parts(0, 1, NONE), 0);
        load(lab, 0, 0, 2, 2);
        check.due("the class's marks, not the file's", lab.of(2, 2), 1);
    }

    private static void fullComesLast() {
        check.about("\"There are 30 classes: FULL. Else a class is defined.\"");
        LoaderLab lab = Check.labWithFiles();
        lab.file(0, 1, Check.plain(1), 1);
        lab.load(0, 0);
        lab.load(0, 1);
        Prepare.fill(lab, 29);
        check.due("classes", lab.count(0), 29);
        lab.file(0, 2, Check.parts(2, 3, NONE), 0);
        load(lab, 0, 2, LoaderLab.FULL, 2);
        check.due("the superclass was the thirtieth", lab.recorded(0, 3), 30);
        int[] parts = {Check.parts(3, 8, 8), Check.parts(2, 2, 8), Check.parts(2, 4, 8), Check.parts(2, 1, 8),
            Check.parts(2, 0, 0), Check.parts(2, 0, 1), Check.parts(2, 8, 8)};
        int[] want = {LoaderLab.WRONG_NAME, LoaderLab.CIRCULAR, LoaderLab.FULL, LoaderLab.KIND, LoaderLab.KIND,
            LoaderLab.FULL, LoaderLab.FULL};
        int[] begun = {1, 1, 2, 2, 3, 3, 1};
        for (int k = 0; k < parts.length; k++) {
            lab.file(0, 2, parts[k], 0);
            load(lab, 0, 2, want[k], begun[k]);
        }
        lab.file(0, 2, Check.plain(2), 4);
        load(lab, 0, 2, LoaderLab.FORMAT, 1);
        lab.noFile(0, 2);
        load(lab, 0, 2, LoaderLab.NOT_FOUND, 1);
        check.due("classes", lab.count(0), 30);
    }

    private static void interfacesMayHaveSuperclasses() {
        check.about("\"(.. A file of an interface may have a superclass like others.)\"");
        for (int marks = 0; marks < 4; marks++) {
            LoaderLab lab = new LoaderLab();
            lab.file(0, 1, Check.plain(1), marks);
            lab.file(0, 2, Check.plain(2), 1);
            lab.file(0, 0, Check.parts(0, 1, 2), 1);
            load(lab, 0, 0, marks == 0 ? 3 : LoaderLab.KIND, marks == 0 ? 3 : 2);
            check.due("superclass", lab.of(3, 2), marks == 0 ? 1 : LoaderLab.REFUSED);
            check.due("interface", lab.of(3, 3), marks == 0 ? 2 : LoaderLab.REFUSED);
        }
    }

    /** The name 0 ends with each code; it is resolved as a superclass, as an interface, and as a reference. */
    private static void resolving() {
        check.about("\"if that ends with NOT_FOUND: NO_CLASS, caused by it. Other failures pass as they are.\"");
        for (int code : Prepare.CODES) {
            LoaderLab lab = new LoaderLab();
            lab.file(0, 1, Check.plain(1), 0);
            lab.load(0, 1);
            Prepare.failing(lab, code);
            boolean missing = code == LoaderLab.NOT_FOUND;
            int want = missing ? LoaderLab.NO_CLASS : code;
            int cause = missing ? LoaderLab.NOT_FOUND : LoaderLab.REFUSED;
            lab.file(0, 2, Check.parts(2, 0, NONE), 0);
            load(lab, 0, 2, want, cause, 1 + Prepare.begunBy(code));
            lab.file(0, 3, Check.parts(3, NONE, 0), 0);
            load(lab, 0, 3, want, cause, 1 + Prepare.begunBy(code));
            // What was resolved on the way keeps its cause, and gets no second one.
            lab.file(0, 4, Check.parts(4, 3, NONE), 0);
            load(lab, 0, 4, want, cause, 2 + Prepare.begunBy(code));
            check.due("no third", lab.cause(2), LoaderLab.REFUSED);
            lab.refer(1, 0, 0);
            check.due("resolve", lab.resolve(1, 0), want);
            check.due("resolve, cause(0)", lab.cause(0), want);
            check.due("resolve, cause(1)", lab.cause(1), cause);
            check.due("resolve, requests", lab.requests(), Prepare.begunBy(code));
            load(lab, 0, 0, code, Prepare.begunBy(code));
        }
    }

    private static void fourReferences() {
        check.about("\"a class has four, 0 .. 3, each to a name, or none\"");
        LoaderLab lab = Check.labWithFiles();
        lab.load(0, 0);
        lab.load(0, 1);
        for (int number = 1; number <= 2; number++) {
            for (int reference = 0; reference < 4; reference++) {
                check.due("none at first", lab.resolve(number, reference), LoaderLab.REFUSED);
                check.due("nothing kept at first", lab.of(number, 5 + reference), 0);
            }
        }
        for (int reference = 0; reference < 4; reference++) {
            check.due("to a name", lab.refer(2, reference, 4 + reference), 0);
        }
        for (int reference = 0; reference < 4; reference++) {
            check.due("none yet for the other class", lab.resolve(1, reference), LoaderLab.REFUSED);
            check.due("each its own", lab.resolve(2, reference), 3 + reference);
        }
        for (int wrong : new int[] {Integer.MIN_VALUE, -1, 4, 5, Integer.MAX_VALUE}) {
            check.due("refer", lab.refer(1, wrong, 0), LoaderLab.REFUSED);
            check.due("resolve", lab.resolve(1, wrong), LoaderLab.REFUSED);
            check.due("resolve", lab.resolve(2, wrong), LoaderLab.REFUSED);
        }
    }

    /** Class 1 is of loader 0; each code is kept, and stays when a request would end with a class. */
    private static void keptEverAfter() {
        check.about("\"is kept, class or failure with its causes, and is what it comes to ever after\"");
        for (int code : Prepare.CODES) {
            LoaderLab lab = new LoaderLab();
            lab.file(0, 1, Check.plain(1), 0);
            lab.load(0, 1);
            lab.refer(1, 3, 0);
            Prepare.failing(lab, code);
            boolean missing = code == LoaderLab.NOT_FOUND;
            int want = missing ? LoaderLab.NO_CLASS : code;
            lab.resolve(1, 3);
            lab.file(2, 0, Check.plain(0), 0);
            lab.file(0, 0, Check.plain(0), 0);
            lab.script(0, 0, code == LoaderLab.CONSTRAINT ? ASK : 0, 4);
            int begun = code == LoaderLab.CONSTRAINT ? 2 : 1;
            int now = code == LoaderLab.FULL ? code : code == LoaderLab.CONSTRAINT ? 2 : lab.count(0) + 1;
            load(lab, 0, 0, now, begun);
            check.due("a failure stays", lab.resolve(1, 3), want);
            check.due("its code", lab.cause(0), want);
            check.due("its cause", lab.cause(1), missing ? LoaderLab.NOT_FOUND : LoaderLab.REFUSED);
            check.due("requests", lab.requests(), 0);
            check.due("of", lab.of(1, 8), want);
        }
        LoaderLab lab = Check.labWithFiles();
        lab.load(0, 0);
        lab.refer(1, 3, 1);
        check.due("the first resolving", lab.resolve(1, 3), 2);
        lab.noFile(0, 1);
        lab.script(0, 1, DENY, 0);
        check.due("a class stays", lab.resolve(1, 3), 2);
        check.due("requests", lab.requests(), 0);
        check.due("no failure", lab.cause(0), LoaderLab.REFUSED);
    }

    private static void fromLoaderToLoader() {
        check.about("\"two loaders must AGREE on a name; that goes on from loader to loader\"");
        LoaderLab lab = Prepare.filesEverywhere();
        int[] chain = {3, 0, 4, 1, 2};
        for (int k = 1; k < 5; k++) {
            check.due("constrain", lab.constrain(chain[k], chain[k - 1], 7), 0);
            for (int j = 0; j < 5; j++) {
                check.due("from the end to " + j, lab.agree(chain[0], chain[j], 7), j <= k);
                check.due("from " + j + " to the end", lab.agree(chain[j], chain[0], 7), j <= k);
            }
        }
        check.due("on no other name", lab.agree(3, 0, 6), false);
        load(lab, 3, 7, 1, 1);
        for (int k = 1; k < 5; k++) {
            load(lab, chain[k], 7, LoaderLab.CONSTRAINT, 1);
        }
        for (int k = 0; k < 5; k++) {
            load(lab, k, 6, 6 + k, 1);
        }
    }

    private static void everyRequestCounts() {
        check.about("\"In 'requests' every request counts that was begun, whatever it ended with.\"");
        LoaderLab lab = new LoaderLab();
        for (int loader = 1; loader < 5; loader++) {
            lab.parent(loader, loader - 1);
        }
        load(lab, 4, 0, LoaderLab.NOT_FOUND, 5);
        lab.file(4, 0, Check.parts(0, 1, 2), 0);
        lab.file(3, 1, Check.plain(1), 0);
        load(lab, 4, 0, LoaderLab.NO_CLASS, LoaderLab.NOT_FOUND, 15);
        lab.file(2, 2, Check.plain(2), 1);
        // Five for the name 0, one for the name 1 that is recorded now, five for the name 2.
        load(lab, 4, 0, 3, 11);
        load(lab, 4, 0, 3, 1);
        lab.script(0, 3, ASK, 4);
        load(lab, 4, 3, LoaderLab.STUCK, 6);
        load(lab, 0, 4, LoaderLab.NOT_FOUND, 1);
    }
}

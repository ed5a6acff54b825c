/** Promises 6, 11 and 12: requests by every way, defining from files, failures and their causes. */
public final class LoadTest {
    private static final Check check = new Check();

    public static void main(String[] args) {
        wrongNumbers();
        parentWay();
        ownWay();
        askWay();
        otherWay();
        nothingAndDeny();
        firstWay();
        defining();
        kinds();
        circles();
        refusedCallsLeaveTheLastOne();
        full();
        deep();
        deepByWay(3);
        deepByWay(6);
        check.end();
    }

    /** Loads, and looks at the answer, its cause's code and the number of requests. */
    private static void load(LoaderLab lab, int loader, int name, int want, int cause, int requests) {
        String call = "load(" + loader + ", " + name + ")";
        check.due(call, lab.load(loader, name), want);
        check.due(call + ", cause(0)", lab.cause(0), want < 0 ? want : LoaderLab.REFUSED);
        check.due(call + ", cause(1)", lab.cause(1), cause);
        check.due(call + ", requests", lab.requests(), requests);
        for (int k : new int[] {2, 3, -1, Integer.MIN_VALUE, Integer.MAX_VALUE}) {
            check.due(call + ", cause(" + k + ")", lab.cause(k), LoaderLab.REFUSED);
        }
    }

    private static void load(LoaderLab lab, int loader, int name, int want, int requests) {
        load(lab, loader, name, want, LoaderLab.REFUSED, requests);
    }

    private static void wrongNumbers() {
        check.about("promise 6, numbers out of range");
        LoaderLab lab = Check.labWithFiles();
        for (int wrong : new int[] {Integer.MIN_VALUE, -1, 8, 9, Integer.MAX_VALUE}) {
            check.due("wrong loader", lab.load(wrong, 0), LoaderLab.REFUSED);
            check.due("wrong name", lab.load(0, wrong), LoaderLab.REFUSED);
        }
        check.due("loader 5", lab.load(5, 0), LoaderLab.REFUSED);
        check.due("nothing defined", lab.count(0), 0);
    }

    private static void parentWay() {
        check.about("promise 6, PARENT");
        LoaderLab lab = Check.labWithFiles();
        lab.parent(1, 0);
        lab.parent(2, 1);
        lab.parent(3, 2);
        lab.file(3, 0, Check.plain(0), 0);
        load(lab, 3, 0, 1, 4);
        check.due("defined by the topmost", lab.of(1, 1), 0);
        for (int loader = 0; loader < 4; loader++) {
            check.due("recorded on the way", lab.recorded(loader, 0), 1);
        }
        load(lab, 3, 0, 1, 1);
        lab.noFile(0, 1);
        lab.file(2, 1, Check.plain(1), 0);
        load(lab, 3, 1, 2, 4);
        check.due("defined where the file is", lab.of(2, 1), 2);
        check.due("not recorded above", lab.recorded(1, 1), 0);
        lab.script(0, 2, 5, 0);
        lab.file(3, 2, Check.plain(2), 0);
        load(lab, 3, 2, LoaderLab.DENIED, 4);
        lab.script(0, 3, 2, 4);
        lab.file(3, 3, Check.plain(3), 0);
        load(lab, 3, 3, 3, 5);
        check.due("NOT_FOUND of whom the parent asked", lab.of(3, 1), 3);
    }

    private static void ownWay() {
        check.about("promise 6, OWN");
        LoaderLab lab = Check.labWithFiles();
        lab.parent(1, 0);
        for (int name = 0; name < 8; name++) {
            lab.script(1, name, 1, 0);
            lab.script(2, name, 1, 0);
        }
        lab.file(1, 0, Check.plain(0), 0);
        load(lab, 1, 0, 1, 1);
        check.due("its own", lab.of(1, 1), 1);
        load(lab, 1, 1, 2, 2);
        check.due("the parent's", lab.of(2, 1), 0);
        lab.noFile(0, 2);
        load(lab, 1, 2, LoaderLab.NOT_FOUND, 2);
        load(lab, 2, 3, LoaderLab.NOT_FOUND, 1);
        lab.file(1, 4, Check.plain(4), 4);
        load(lab, 1, 4, LoaderLab.FORMAT, 1);
    }

    private static void askWay() {
        check.about("promise 6, ASK");
        LoaderLab lab = Check.labWithFiles();
        lab.script(4, 0, 2, 2);
        lab.script(2, 0, 2, 0);
        load(lab, 4, 0, 1, 3);
        check.due("recorded by the one between", lab.recorded(2, 0), 1);
        lab.script(1, 1, 2, 1);
        load(lab, 1, 1, LoaderLab.STUCK, 2);
        lab.script(1, 2, 2, 2);
        lab.script(2, 2, 2, 3);
        lab.script(3, 2, 2, 2);
        load(lab, 1, 2, LoaderLab.STUCK, 4);
        load(lab, 1, 2, LoaderLab.STUCK, 4);
        lab.script(1, 3, 2, 3);
        lab.file(1, 3, Check.plain(3), 0);
        load(lab, 1, 3, LoaderLab.NOT_FOUND, 2);
        lab.script(3, 4, 2, 4);
        lab.parent(4, 3);
        lab.file(4, 4, Check.plain(4), 0);
        load(lab, 4, 4, LoaderLab.STUCK, 3);
    }

    private static void otherWay() {
        check.about("promise 6, OTHER");
        LoaderLab lab = Check.labWithFiles();
        lab.script(0, 0, 3, 1);
        load(lab, 0, 0, LoaderLab.WRONG_NAME, 2);
        check.due("the other is recorded", lab.recorded(0, 1), 1);
        check.due("the name is not", lab.recorded(0, 0), 0);
        load(lab, 0, 0, LoaderLab.WRONG_NAME, 2);
        lab.script(0, 2, 3, 2);
        load(lab, 0, 2, LoaderLab.STUCK, 2);
        lab.script(0, 3, 3, 4);
        lab.noFile(0, 4);
        load(lab, 0, 3, LoaderLab.NOT_FOUND, 2);
        lab.parent(1, 0);
        lab.file(1, 3, Check.plain(3), 0);
        load(lab, 1, 3, 2, 3);
        check.due("defined below that", lab.of(2, 1), 1);
    }

    private static void nothingAndDeny() {
        check.about("promise 6, NOTHING and DENY");
        LoaderLab lab = Check.labWithFiles();
        lab.script(0, 0, 4, 0);
        lab.script(0, 1, 5, 0);
        load(lab, 0, 0, LoaderLab.NO_CLASS, 1);
        load(lab, 0, 1, LoaderLab.DENIED, 1);
        lab.script(0, 1, 0, 0);
        load(lab, 0, 1, 1, 1);
        lab.script(0, 1, 5, 0);
        load(lab, 0, 1, 1, 1);
        lab.parent(1, 0);
        lab.file(1, 0, Check.plain(0), 0);
        load(lab, 1, 0, LoaderLab.NO_CLASS, 2);
    }

    private static void firstWay() {
        check.about("promise 6, FIRST");
        LoaderLab lab = Check.labWithFiles();
        lab.script(0, 0, 6, 1);
        load(lab, 0, 0, 2, 2);
        check.due("the first one's number", lab.recorded(0, 1), 1);
        lab.script(0, 2, 6, 2);
        load(lab, 0, 2, LoaderLab.STUCK, 2);
        lab.script(0, 3, 6, 4);
        lab.noFile(0, 4);
        load(lab, 0, 3, LoaderLab.NOT_FOUND, 2);
        lab.parent(1, 0);
        lab.script(1, 5, 6, 6);
        lab.file(1, 5, Check.plain(5), 0);
        load(lab, 1, 5, 4, 4);
        check.due("then as PARENT", lab.of(4, 1), 0);
        lab.script(1, 7, 6, 0);
        lab.noFile(0, 7);
        lab.file(1, 7, Check.plain(7), 0);
        load(lab, 1, 7, 5, 4);
        check.due("and then DEFINE", lab.of(5, 1), 1);
        lab.script(1, 3, 6, 2);
        lab.file(1, 3, Check.plain(3), 0);
        load(lab, 1, 3, LoaderLab.STUCK, 4);
    }

    private static void defining() {
        check.about("promise 6, DEFINE");
        LoaderLab lab = new LoaderLab();
        lab.file(0, 0, Check.plain(1), 4);
        load(lab, 0, 0, LoaderLab.FORMAT, 1);
        lab.file(0, 0, Check.parts(1, 0, 0), 0);
        load(lab, 0, 0, LoaderLab.WRONG_NAME, 1);
        lab.file(0, 0, Check.parts(0, 1, 2), 0);
        load(lab, 0, 0, LoaderLab.NO_CLASS, LoaderLab.NOT_FOUND, 2);
        lab.file(0, 1, Check.plain(1), 0);
        load(lab, 0, 0, LoaderLab.NO_CLASS, LoaderLab.NOT_FOUND, 3);
        check.due("the superclass came first", lab.recorded(0, 1), 1);
        lab.script(0, 2, 4, 0);
        load(lab, 0, 0, LoaderLab.NO_CLASS, 3);
        lab.script(0, 2, 0, 0);
        lab.file(0, 2, Check.plain(2), 1);
        load(lab, 0, 0, 3, 3);
        check.due("superclass", lab.of(3, 2), 1);
        check.due("interface", lab.of(3, 3), 2);
        lab.parent(1, 0);
        lab.file(1, 3, Check.parts(3, 0, 2), 2);
        load(lab, 1, 3, 4, 6);
        check.due("parts resolved from the definer", lab.recorded(1, 0), 3);
        lab.file(0, 4, Check.parts(4, 5, Check.NONE), 0);
        lab.file(1, 4, Check.plain(4), 0);
        load(lab, 1, 4, LoaderLab.NO_CLASS, LoaderLab.NOT_FOUND, 3);
        lab.file(0, 6, Check.parts(6, 4, Check.NONE), 0);
        load(lab, 0, 6, LoaderLab.NO_CLASS, LoaderLab.NOT_FOUND, 3);
        check.due("no third code", lab.cause(2), LoaderLab.REFUSED);
    }

    private static void kinds() {
        check.about("promise 6, KIND");
        for (int marks = 0; marks < 4; marks++) {
            LoaderLab lab = new LoaderLab();
            lab.file(0, 0, Check.plain(0), marks);
            lab.file(0, 1, Check.parts(1, 0, Check.NONE), 0);
            load(lab, 0, 1, marks == 0 ? 2 : LoaderLab.KIND, 2);
            lab.file(0, 2, Check.parts(2, Check.NONE, 0), 0);
            load(lab, 0, 2, (marks & 1) == 0 ? LoaderLab.KIND : 2, 2);
        }
        LoaderLab lab = new LoaderLab();
        lab.file(0, 0, Check.plain(0), 2);
        lab.file(0, 1, Check.parts(1, 0, 3), 0);
        load(lab, 0, 1, LoaderLab.KIND, 2);
        lab.file(0, 4, Check.plain(4), 0);
        lab.file(0, 5, Check.parts(5, 4, Check.NONE), 1);
        load(lab, 0, 5, 3, 2);
        check.due("an interface's superclass", lab.of(3, 2), 2);
        lab.file(0, 6, Check.parts(6, 4, 4), 0);
        load(lab, 0, 6, LoaderLab.KIND, 3);
    }

    private static void circles() {
        check.about("promise 6, CIRCULAR");
        LoaderLab lab = new LoaderLab();
        lab.file(0, 0, Check.parts(0, 0, Check.NONE), 0);
        load(lab, 0, 0, LoaderLab.CIRCULAR, 1);
        lab.file(0, 0, Check.parts(0, Check.NONE, 0), 0);
        load(lab, 0, 0, LoaderLab.CIRCULAR, 1);
        lab.file(0, 0, Check.parts(0, 1, Check.NONE), 0);
        lab.file(0, 1, Check.parts(1, 2, Check.NONE), 0);
        lab.file(0, 2, Check.parts(2, Check.NONE, 0), 0);
        load(lab, 0, 0, LoaderLab.CIRCULAR, 3);
        lab.script(0, 3, 6, 4);
        lab.file(0, 3, Check.plain(3), 0);
        lab.file(0, 4, Check.parts(4, 3, Check.NONE), 0);
        load(lab, 0, 3, LoaderLab.CIRCULAR, 2);
        load(lab, 0, 4, LoaderLab.STUCK, 3);
        // The request to loader 1 is under way, but the part is asked of loader 0, where none is.
        lab.script(1, 5, 2, 0);
        lab.file(0, 5, Check.parts(5, 6, Check.NONE), 0);
        lab.script(0, 6, 2, 1);
        lab.script(1, 6, 3, 5);
        load(lab, 1, 5, LoaderLab.STUCK, 5);
    }

    private static void refusedCallsLeaveTheLastOne() {
        check.about("promises 11 and 12, after other calls");
        LoaderLab lab = new LoaderLab();
        lab.file(0, 0, Check.parts(0, 1, Check.NONE), 0);
        load(lab, 0, 0, LoaderLab.NO_CLASS, LoaderLab.NOT_FOUND, 2);
        lab.file(0, 1, Check.plain(1), 0);
        lab.constrain(0, 9, 0);
        lab.recorded(0, 0);
        lab.load(5, 0);
        lab.resolve(1, 0);
        check.due("cause(0)", lab.cause(0), LoaderLab.NO_CLASS);
        check.due("cause(1)", lab.cause(1), LoaderLab.NOT_FOUND);
        check.due("requests", lab.requests(), 2);
    }

    /** Loader 1 may never record the name 0, but defines a class whenever it is asked. */
    private static void full() {
        check.about("promise 6, FULL");
        LoaderLab lab = Check.labWithFiles();
        lab.file(1, 0, Check.plain(0), 0);
        lab.constrain(0, 1, 0);
        lab.load(0, 0);
        for (int classes = 1; classes < 29; classes++) {
            load(lab, 1, 0, LoaderLab.CONSTRAINT, 1);
            check.due("classes", lab.count(0), classes + 1);
        }
        check.due("unrecorded class's name", lab.of(29, 0), 0);
        check.due("unrecorded class's loader", lab.of(29, 1), 1);
        check.due("records", lab.count(1), 1);
        lab.file(0, 1, Check.parts(1, 2, Check.NONE), 0);
        load(lab, 0, 1, LoaderLab.FULL, 2);
        check.due("the superclass was the last", lab.of(30, 0), 2);
        load(lab, 1, 0, LoaderLab.FULL, 1);
        lab.file(0, 3, Check.parts(3, 4, Check.NONE), 0);
        lab.noFile(0, 4);
        load(lab, 0, 3, LoaderLab.NO_CLASS, LoaderLab.NOT_FOUND, 2);
        lab.file(0, 3, Check.parts(3, 3, Check.NONE), 0);
        load(lab, 0, 3, LoaderLab.CIRCULAR, 1);
        check.due("classes", lab.count(0), 30);
        check.due("class 31", lab.of(31, 0), LoaderLab.REFUSED);
        load(lab, 0, 0, 1, 1);
    }

    /** Every loader and name is under way at once: name after name in a loader, then on to the next loader. */
    private static void deep() {
        check.about("promise 6, the deepest requests");
        LoaderLab lab = new LoaderLab();
        for (int loader = 0; loader < 5; loader++) {
            boolean up = loader % 2 == 0;
            for (int k = 0; k < 7; k++) {
                int name = up ? k : 7 - k;
                int next = up ? k + 1 : 6 - k;
                lab.script(loader, name, 1, 0);
                lab.file(loader, name, Check.parts(name, next, Check.NONE), 0);
            }
            lab.script(loader, up ? 7 : 0, 2, (loader + 1) % 5);
        }
        load(lab, 0, 0, LoaderLab.STUCK, 41);
        lab.script(4, 7, 4, 0);
        load(lab, 0, 0, LoaderLab.NO_CLASS, 40);
        lab.script(4, 7, 1, 0);
        load(lab, 0, 0, LoaderLab.NO_CLASS, LoaderLab.NOT_FOUND, 40);
        lab.file(4, 7, Check.plain(7), 0);
        load(lab, 0, 0, LoaderLab.FULL, 40);
        check.due("classes", lab.count(0), 30);
    }

    /** Down the loaders by PARENT, on to the next name, up the loaders by ASK, on to the next name, and so on. */
    private static void deepByWay(int onward) {
        check.about("promise 6, the deepest requests, onward by the way " + onward);
        LoaderLab lab = new LoaderLab();
        for (int loader = 1; loader < 5; loader++) {
            lab.parent(loader, loader - 1);
        }
        for (int name = 0; name < 8; name++) {
            boolean down = name % 2 == 0;
            for (int loader = 0; loader < 4 && !down; loader++) {
                lab.script(loader, name, 2, loader + 1);
            }
            lab.script(down ? 0 : 4, name, onward, (name + 1) % 8);
        }
        load(lab, 4, 0, LoaderLab.STUCK, 41);
        lab.script(4, 7, 5, 0);
        load(lab, 4, 0, LoaderLab.DENIED, 40);
        lab.script(4, 7, 4, 0);
        load(lab, 4, 0, LoaderLab.NO_CLASS, 40);
    }
}

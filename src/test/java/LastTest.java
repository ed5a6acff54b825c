/** Promises 11 and 12: what is told of the last load or resolve, at the edges that the two sentences name. */
public final class LastTest {
    private static final int[] NO_CODES = {Integer.MIN_VALUE, -2, -1, 2, 3, 11, Integer.MAX_VALUE};

    private static final Check check = new Check();

    public static void main(String[] args) {
        nothingYet();
        aClass();
        aFailureAlone();
        aFailureWithItsCause();
        aKeptFailure();
        aKeptClass();
        loadsAndResolvesInTurn();
        otherCallsBetween();
        check.end();
    }

    private static void last(LoaderLab lab, String what, int code, int cause, int requests) {
        check.due(what + ", cause(0)", lab.cause(0), code);
        check.due(what + ", cause(1)", lab.cause(1), cause);
        for (int k : NO_CODES) {
            check.due(what + ", cause(" + k + ")", lab.cause(k), LoaderLab.REFUSED);
        }
        check.due(what + ", requests", lab.requests(), requests);
    }

    private static void lastWasFine(LoaderLab lab, String what, int requests) {
        last(lab, what, LoaderLab.REFUSED, LoaderLab.REFUSED, requests);
    }

    /** Class 1 of loader 0, with references 0 to what is missing, 1 to what is broken, 2 to itself, 3 to the name 3. */
    private static LoaderLab lab() {
        LoaderLab lab = Check.labWithFiles();
        lab.noFile(0, 1);
        lab.file(0, 2, Check.plain(2), 4);
        lab.load(0, 0);
        lab.refer(1, 0, 1);
        lab.refer(1, 1, 2);
        lab.refer(1, 2, 0);
        lab.refer(1, 3, 3);
        return lab;
    }

    private static void nothingYet() {
        check.about("\"REFUSED if there is none\", nothing loaded yet");
        LoaderLab lab = new LoaderLab();
        lastWasFine(lab, "a new object", 0);
        lab.file(0, 0, Check.plain(0), 0);
        lab.constrain(0, 1, 0);
        lab.refer(1, 0, 0);
        lastWasFine(lab, "other calls", 0);
        lab.load(5, 0);
        lab.resolve(1, 0);
        lastWasFine(lab, "refused ones", 0);
    }

    private static void aClass() {
        check.about("\"REFUSED if there is none\", it ended with a class");
        LoaderLab lab = lab();
        lastWasFine(lab, "defined", 1);
        lab.load(0, 1);
        lab.load(0, 0);
        lastWasFine(lab, "recorded, after a failure", 1);
        lab.load(0, 1);
        lab.resolve(1, 3);
        lastWasFine(lab, "resolved, after a failure", 1);
        lab.parent(1, 0);
        lab.file(1, 4, Check.parts(4, 5, Check.NONE), 0);
        lab.noFile(0, 4);
        lab.load(1, 4);
        // The parent's NOT_FOUND on the way is no failure of the load.
        lastWasFine(lab, "NOT_FOUND on the way", 4);
    }

    private static void aFailureAlone() {
        check.about("\"Code k (0 the failure's own ..)\"");
        for (int code : Prepare.CODES) {
            LoaderLab lab = new LoaderLab();
            Prepare.failing(lab, code);
            check.due("load", lab.load(0, 0), code);
            last(lab, "load", code, LoaderLab.REFUSED, Prepare.begunBy(code));
        }
    }

    private static void aFailureWithItsCause() {
        check.about("\"Code k (.. 1 its cause's)\"");
        LoaderLab lab = lab();
        check.due("resolve", lab.resolve(1, 0), LoaderLab.NO_CLASS);
        last(lab, "resolve", LoaderLab.NO_CLASS, LoaderLab.NOT_FOUND, 1);
        lab.file(0, 4, Check.parts(4, 1, Check.NONE), 0);
        lab.file(0, 5, Check.parts(5, Check.NONE, 4), 0);
        check.due("load", lab.load(0, 5), LoaderLab.NO_CLASS);
        last(lab, "load", LoaderLab.NO_CLASS, LoaderLab.NOT_FOUND, 3);
        lab.load(0, 1);
        last(lab, "load of what is missing itself", LoaderLab.NOT_FOUND, LoaderLab.REFUSED, 1);
        lab.script(0, 1, 4, 0);
        lab.load(0, 1);
        last(lab, "no answer has no cause", LoaderLab.NO_CLASS, LoaderLab.REFUSED, 1);
        lab.load(0, 5);
        last(lab, "and none above", LoaderLab.NO_CLASS, LoaderLab.REFUSED, 3);
    }

    private static void aKeptFailure() {
        check.about("\"(a kept one too)\" and \"(a kept reference: 0)\"");
        LoaderLab lab = lab();
        lab.resolve(1, 0);
        lab.resolve(1, 1);
        last(lab, "first resolving", LoaderLab.FORMAT, LoaderLab.REFUSED, 1);
        lab.load(0, 3);
        lab.resolve(1, 0);
        last(lab, "kept, after a class", LoaderLab.NO_CLASS, LoaderLab.NOT_FOUND, 0);
        lab.resolve(1, 1);
        last(lab, "kept, after another kept one", LoaderLab.FORMAT, LoaderLab.REFUSED, 0);
        lab.resolve(1, 0);
        last(lab, "kept, once more", LoaderLab.NO_CLASS, LoaderLab.NOT_FOUND, 0);
        lab.file(0, 1, Check.plain(1), 0);
        lab.load(0, 1);
        lab.resolve(1, 0);
        last(lab, "kept, though it is there now", LoaderLab.NO_CLASS, LoaderLab.NOT_FOUND, 0);
    }

    private static void aKeptClass() {
        check.about("\"(a kept reference: 0)\", a class");
        LoaderLab lab = lab();
        lab.resolve(1, 2);
        lastWasFine(lab, "recorded, the first time", 1);
        lab.load(0, 2);
        lab.resolve(1, 2);
        lastWasFine(lab, "kept, after a failure", 0);
        lab.resolve(1, 0);
        lab.resolve(1, 2);
        lastWasFine(lab, "kept, after a failure with a cause", 0);
        // The first resolving comes to a class after a failure with a cause: the kept one has none.
        lab.resolve(1, 0);
        lab.resolve(1, 3);
        lastWasFine(lab, "first", 1);
        lab.resolve(1, 3);
        lastWasFine(lab, "kept", 0);
    }

    private static void loadsAndResolvesInTurn() {
        check.about("\"the last load or resolve\"");
        LoaderLab lab = lab();
        lab.load(0, 1);
        lab.resolve(1, 1);
        last(lab, "resolve after load", LoaderLab.FORMAT, LoaderLab.REFUSED, 1);
        lab.load(1, 0);
        last(lab, "load after resolve", LoaderLab.NOT_FOUND, LoaderLab.REFUSED, 1);
        lab.resolve(1, 0);
        last(lab, "resolve after load", LoaderLab.NO_CLASS, LoaderLab.NOT_FOUND, 1);
        lab.load(0, 2);
        last(lab, "load after resolve", LoaderLab.FORMAT, LoaderLab.REFUSED, 1);
        lab.parent(1, 0);
        lab.parent(2, 1);
        lab.load(2, 4);
        lastWasFine(lab, "requests begin anew", 3);
        lab.load(2, 4);
        lastWasFine(lab, "requests begin anew", 1);
    }

    private static void otherCallsBetween() {
        check.about("\"the last load or resolve\", other calls being between");
        LoaderLab lab = lab();
        lab.resolve(1, 0);
        lab.parent(1, 0);
        lab.file(0, 1, Check.plain(1), 0);
        lab.noFile(0, 1);
        lab.script(0, 1, 5, 0);
        lab.refer(1, 1, 3);
        lab.constrain(0, 1, 0);
        lab.agree(0, 1, 0);
        lab.recorded(0, 0);
        lab.of(1, 5);
        lab.isA(1, 1);
        lab.count(0);
        last(lab, "calls that were taken", LoaderLab.NO_CLASS, LoaderLab.NOT_FOUND, 1);
        lab.load(-1, 0);
        lab.load(0, 8);
        lab.resolve(2, 0);
        lab.resolve(1, 4);
        last(lab, "calls that were refused", LoaderLab.NO_CLASS, LoaderLab.NOT_FOUND, 1);
    }
}

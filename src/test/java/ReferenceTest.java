/** Promises 7 and 8, and 11, 12 and 14 where they tell of references. */
public final class ReferenceTest {
    private static final int[] FAR = {Integer.MIN_VALUE, -1, 31, 1000, Integer.MAX_VALUE};

    private static final Check check = new Check();

    public static void main(String[] args) {
        refer();
        resolveToClass();
        resolveToFailure();
        resolveFromDefiner();
        keptOfEveryKind();
        lastClass();
        check.end();
    }

    private static LoaderLab labWithOneClass() {
        LoaderLab lab = Check.labWithFiles();
        lab.load(0, 0);
        return lab;
    }

    private static void resolve(LoaderLab lab, int reference, int want, int cause, int requests) {
        String call = "resolve(1, " + reference + ")";
        check.due(call, lab.resolve(1, reference), want);
        check.due(call + ", cause(0)", lab.cause(0), want < 0 ? want : LoaderLab.REFUSED);
        check.due(call + ", cause(1)", lab.cause(1), cause);
        check.due(call + ", cause(2)", lab.cause(2), LoaderLab.REFUSED);
        check.due(call + ", requests", lab.requests(), requests);
        check.due(call + ", kept", lab.of(1, 5 + reference), want);
        check.due(call + ", then refer", lab.refer(1, reference, 0), LoaderLab.REFUSED);
    }

    private static void refer() {
        check.about("promise 7");
        LoaderLab lab = labWithOneClass();
        for (int reference = 0; reference < 4; reference++) {
            for (int name = 0; name < 8; name++) {
                check.due("refer", lab.refer(1, reference, name), 0);
                check.due("nothing kept", lab.of(1, 5 + reference), 0);
            }
        }
        check.due("reference 4", lab.refer(1, 4, 0), LoaderLab.REFUSED);
        check.due("name 8", lab.refer(1, 0, 8), LoaderLab.REFUSED);
        check.due("class 0", lab.refer(0, 0, 0), LoaderLab.REFUSED);
        check.due("class 2", lab.refer(2, 0, 0), LoaderLab.REFUSED);
        for (int far : FAR) {
            check.due("far class", lab.refer(far, 0, 0), LoaderLab.REFUSED);
            check.due("far reference", lab.refer(1, far, 0), LoaderLab.REFUSED);
            check.due("far name", lab.refer(1, 0, far), LoaderLab.REFUSED);
        }
        check.due("the last name that was not refused", lab.resolve(1, 0), 2);
        check.due("its name", lab.of(2, 0), 7);
        check.due("refer, now kept", lab.refer(1, 0, 7), LoaderLab.REFUSED);
        check.due("refer, another one", lab.refer(1, 1, 6), 0);
    }

    private static void resolveToClass() {
        check.about("promise 8, a class");
        LoaderLab lab = labWithOneClass();
        check.due("none", lab.resolve(1, 0), LoaderLab.REFUSED);
        check.due("reference 4", lab.resolve(1, 4), LoaderLab.REFUSED);
        check.due("class 0", lab.resolve(0, 0), LoaderLab.REFUSED);
        check.due("class 2", lab.resolve(2, 0), LoaderLab.REFUSED);
        for (int far : FAR) {
            check.due("far class", lab.resolve(far, 0), LoaderLab.REFUSED);
            check.due("far reference", lab.resolve(1, far), LoaderLab.REFUSED);
        }
        lab.refer(1, 0, 3);
        lab.refer(1, 3, 0);
        resolve(lab, 0, 2, LoaderLab.REFUSED, 1);
        check.due("recorded", lab.recorded(0, 3), 2);
        resolve(lab, 0, 2, LoaderLab.REFUSED, 0);
        resolve(lab, 3, 1, LoaderLab.REFUSED, 1);
        check.due("nothing kept for another one", lab.of(1, 6), 0);
    }

    private static void resolveToFailure() {
        check.about("promise 8, a failure");
        LoaderLab lab = labWithOneClass();
        for (int reference = 0; reference < 4; reference++) {
            lab.refer(1, reference, 1 + reference);
        }
        lab.noFile(0, 1);
        lab.file(0, 2, Check.parts(2, 1, Check.NONE), 0);
        lab.script(0, 3, 4, 0);
        resolve(lab, 0, LoaderLab.NO_CLASS, LoaderLab.NOT_FOUND, 1);
        resolve(lab, 1, LoaderLab.NO_CLASS, LoaderLab.NOT_FOUND, 2);
        resolve(lab, 2, LoaderLab.NO_CLASS, LoaderLab.REFUSED, 1);
        resolve(lab, 3, 2, LoaderLab.REFUSED, 1);
        lab.file(0, 1, Check.plain(1), 0);
        lab.script(0, 3, 0, 0);
        check.due("load of what failed", lab.load(0, 2), 4);
        check.due("load of what failed", lab.load(0, 3), 5);
        resolve(lab, 0, LoaderLab.NO_CLASS, LoaderLab.NOT_FOUND, 0);
        resolve(lab, 2, LoaderLab.NO_CLASS, LoaderLab.REFUSED, 0);
        resolve(lab, 1, LoaderLab.NO_CLASS, LoaderLab.NOT_FOUND, 0);
        resolve(lab, 3, 2, LoaderLab.REFUSED, 0);
        check.due("load is no resolving", lab.load(1, 0), LoaderLab.NOT_FOUND);
        check.due("and has no cause", lab.cause(1), LoaderLab.REFUSED);
    }

    /** The class of loader 0 is recorded by loader 1 too, and both have a file for the name 1. */
    private static void resolveFromDefiner() {
        check.about("promise 8, from the loader that defined the class");
        LoaderLab lab = Check.labWithFiles();
        lab.script(1, 0, 2, 0);
        lab.file(1, 1, Check.plain(1), 0);
        lab.load(1, 0);
        lab.load(1, 1);
        lab.refer(1, 0, 1);
        lab.refer(2, 0, 0);
        resolve(lab, 0, 3, LoaderLab.REFUSED, 1);
        check.due("loader of it", lab.of(3, 1), 0);
        check.due("class 2's", lab.resolve(2, 0), 1);
        check.due("kept for class 2", lab.of(2, 5), 1);
    }

    private static void keptOfEveryKind() {
        check.about("promise 8, kept failures of other kinds");
        LoaderLab lab = Check.labWithFiles();
        lab.constrain(0, 1, 4);
        lab.load(1, 4);
        lab.file(1, 4, Check.plain(4), 0);
        check.due("loader 1's", lab.load(1, 4), 1);
        lab.load(0, 0);
        int[] codes = {LoaderLab.DENIED, LoaderLab.STUCK, LoaderLab.CONSTRAINT, LoaderLab.CIRCULAR};
        lab.script(0, 1, 5, 0);
        lab.script(0, 2, 2, 0);
        lab.file(0, 3, Check.parts(3, 3, Check.NONE), 0);
        int[] names = {1, 2, 4, 3};
        for (int reference = 0; reference < 4; reference++) {
            lab.refer(2, reference, names[reference]);
            check.due("resolve", lab.resolve(2, reference), codes[reference]);
        }
        check.due("a class may be there that nobody recorded", lab.count(0), 3);
        for (int name = 1; name < 5; name++) {
            lab.script(0, name, 0, 0);
            lab.file(0, name, Check.plain(name), 0);
        }
        for (int reference = 0; reference < 4; reference++) {
            check.due("resolve again", lab.resolve(2, reference), codes[reference]);
            check.due("cause(0)", lab.cause(0), codes[reference]);
            check.due("cause(1)", lab.cause(1), LoaderLab.REFUSED);
            check.due("requests", lab.requests(), 0);
        }
    }

    /** Loader 1 may never record the name 0, but defines a class whenever it is asked: so the classes run out. */
    private static void lastClass() {
        check.about("promises 7, 8 and 14, the thirtieth class");
        LoaderLab lab = labWithOneClass();
        lab.file(1, 0, Check.plain(0), 0);
        lab.constrain(0, 1, 0);
        while (lab.count(0) < 30) {
            check.due("load", lab.load(1, 0), LoaderLab.CONSTRAINT);
        }
        for (int reference = 0; reference < 4; reference++) {
            check.due("refer", lab.refer(30, reference, reference), 0);
            check.due("resolve", lab.resolve(30, reference), reference == 0 ? LoaderLab.FULL : LoaderLab.NO_CLASS);
            check.due("cause(1)", lab.cause(1), reference == 0 ? LoaderLab.REFUSED : LoaderLab.NOT_FOUND);
            check.due("kept", lab.of(30, 5 + reference), reference == 0 ? LoaderLab.FULL : LoaderLab.NO_CLASS);
        }
        check.due("class 31", lab.refer(31, 0, 0), LoaderLab.REFUSED);
    }
}

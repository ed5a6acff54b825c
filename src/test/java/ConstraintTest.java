/** Promises 9 and 10, and the pairs of promise 16. */
public final class ConstraintTest {
    private static final Check check = new Check();

    public static void main(String[] args) {
        wrongNumbers();
        withItself();
        fromLoaderToLoader();
        brokenAtOnce();
        brokenLeavesNothing();
        onceMore();
        everyPairOnEveryName();
        brokenByRecording();
        check.end();
    }

    private static void wrongNumbers() {
        check.about("promises 9 and 10, numbers out of range");
        LoaderLab lab = new LoaderLab();
        for (int wrong : new int[] {Integer.MIN_VALUE, -1, 8, 9, Integer.MAX_VALUE}) {
            check.due("constrain, first", lab.constrain(wrong, 0, 0), LoaderLab.REFUSED);
            check.due("constrain, second", lab.constrain(0, wrong, 0), LoaderLab.REFUSED);
            check.due("constrain, name", lab.constrain(0, 1, wrong), LoaderLab.REFUSED);
            check.due("agree, first", lab.agree(wrong, 0, 0), false);
            check.due("agree, second", lab.agree(0, wrong, 0), false);
            check.due("agree, both", lab.agree(wrong, wrong, 0), false);
            check.due("agree, name", lab.agree(0, 0, wrong), false);
        }
        check.due("constrain, loader 5", lab.constrain(5, 5, 0), LoaderLab.REFUSED);
        check.due("agree, loader 5", lab.agree(5, 5, 0), false);
        check.due("pairs", lab.count(3), 0);
    }

    private static void fromLoaderToLoader() {
        check.about("promises 9, 10 and 16, agreeing goes on");
        LoaderLab lab = new LoaderLab();
        check.due("with itself", lab.constrain(2, 2, 5), 0);
        check.due("no pair", lab.count(3), 0);
        lab.constrain(0, 1, 5);
        lab.constrain(4, 3, 5);
        check.due("pairs", lab.count(3), 2);
        check.due("agree", lab.agree(0, 1, 5), true);
        check.due("the other way round", lab.agree(1, 0, 5), true);
        check.due("not yet", lab.agree(0, 3, 5), false);
        lab.constrain(1, 4, 5);
        check.due("pairs among four", lab.count(3), 6);
        check.due("from 0 to 3", lab.agree(0, 3, 5), true);
        check.due("from 3 to 0", lab.agree(3, 0, 5), true);
        check.due("not 2", lab.agree(0, 2, 5), false);
        check.due("another name", lab.agree(0, 1, 4), false);
        lab.constrain(0, 4, 5);
        check.due("pairs, nothing new", lab.count(3), 6);
        lab.constrain(0, 1, 7);
        check.due("pairs, over all names", lab.count(3), 7);
        lab.constrain(2, 3, 5);
        check.due("pairs among five", lab.count(3), 11);
    }

    private static void brokenAtOnce() {
        check.about("promise 9, broken at once");
        LoaderLab lab = new LoaderLab();
        for (int loader = 0; loader < 2; loader++) {
            lab.file(loader, 0, Check.plain(0), 0);
            lab.load(loader, 0);
        }
        lab.script(2, 0, 2, 0);
        lab.load(2, 0);
        check.due("different", lab.constrain(0, 1, 0), LoaderLab.CONSTRAINT);
        check.due("need not", lab.agree(0, 1, 0), false);
        check.due("the same class", lab.constrain(0, 2, 0), 0);
        check.due("another name", lab.constrain(0, 1, 1), 0);
        check.due("none recorded", lab.constrain(3, 1, 0), 0);
        check.due("behind both", lab.constrain(3, 2, 0), LoaderLab.CONSTRAINT);
        check.due("behind both, the other way round", lab.constrain(2, 3, 0), LoaderLab.CONSTRAINT);
        check.due("behind one", lab.constrain(4, 3, 0), 0);
        check.due("and on", lab.constrain(4, 0, 0), LoaderLab.CONSTRAINT);
        check.due("pairs", lab.count(3), 5);
    }

    /** Loaders 0 and 1 agree, and 3 and 4; behind 1 and 4 stand different classes, so the two groups stay apart. */
    private static void brokenLeavesNothing() {
        check.about("promise 9, \"CONSTRAINT, and they need not\"");
        LoaderLab lab = new LoaderLab();
        lab.constrain(0, 1, 0);
        lab.constrain(3, 4, 0);
        lab.file(1, 0, Check.plain(0), 0);
        lab.file(4, 0, Check.plain(0), 0);
        check.due("load", lab.load(1, 0), 1);
        check.due("load", lab.load(4, 0), 2);
        for (int a = 0; a < 5; a++) {
            for (int b = 0; b < 5; b++) {
                boolean apart = a < 2 && b > 2 || a > 2 && b < 2;
                if (a != 2 && b != 2) {
                    int want = apart ? LoaderLab.CONSTRAINT : 0;
                    check.due("constrain(" + a + ", " + b + ")", lab.constrain(a, b, 0), want);
                    check.due("agree(" + a + ", " + b + ")", lab.agree(a, b, 0), !apart);
                    check.due("pairs", lab.count(3), 2);
                }
            }
        }
        lab.script(0, 0, 2, 1);
        check.due("0 is free to record what 1 did", lab.load(0, 0), 1);
        lab.script(3, 0, 2, 4);
        check.due("3 is free to record what 4 did", lab.load(3, 0), 2);
        check.due("the one between, to one side", lab.constrain(2, 0, 0), 0);
        check.due("the one between, to the other", lab.constrain(2, 3, 0), LoaderLab.CONSTRAINT);
        check.due("the other side, on another name", lab.constrain(2, 3, 1), 0);
    }

    private static void onceMore() {
        check.about("promise 9, where they agree already");
        LoaderLab lab = Check.labWithFiles();
        lab.script(1, 0, 2, 0);
        for (int time = 0; time < 3; time++) {
            check.due("constrain", lab.constrain(0, 1, 0), 0);
            check.due("the other way round", lab.constrain(1, 0, 0), 0);
            check.due("pairs", lab.count(3), 1);
            check.due("load", lab.load(time % 2, 0), 1);
        }
    }

    private static void withItself() {
        check.about("promises 9 and 10, \"(a loader does with itself)\"");
        LoaderLab lab = Check.labWithFiles();
        for (int loader = 0; loader < 5; loader++) {
            for (int name = 0; name < 8; name++) {
                check.due("agree at first", lab.agree(loader, loader, name), true);
                check.due("constrain", lab.constrain(loader, loader, name), 0);
                check.due("agree", lab.agree(loader, loader, name), true);
            }
        }
        check.due("pairs", lab.count(3), 0);
        check.due("load", lab.load(0, 0), 1);
        check.due("constrain, recorded", lab.constrain(0, 0, 0), 0);
    }

    private static void everyPairOnEveryName() {
        check.about("promises 9, 10 and 16, every pair on every name");
        for (int a = 0; a < 5; a++) {
            for (int b = 0; b < 5; b++) {
                LoaderLab lab = new LoaderLab();
                for (int name = 0; name < 8; name++) {
                    check.due("not yet", lab.agree(a, b, name), a == b);
                    check.due("constrain", lab.constrain(a, b, name), 0);
                    check.due("agree", lab.agree(a, b, name), true);
                    check.due("the other way round", lab.agree(b, a, name), true);
                    check.due("pairs", lab.count(3), a == b ? 0 : name + 1);
                }
            }
        }
    }

    private static void brokenByRecording() {
        check.about("step 5, recording");
        LoaderLab lab = new LoaderLab();
        lab.file(0, 0, Check.plain(0), 0);
        lab.file(1, 0, Check.plain(0), 0);
        lab.constrain(0, 2, 0);
        lab.constrain(2, 1, 0);
        check.due("the first one", lab.load(0, 0), 1);
        check.due("a different one", lab.load(1, 0), LoaderLab.CONSTRAINT);
        check.due("its code", lab.cause(0), LoaderLab.CONSTRAINT);
        check.due("no cause", lab.cause(1), LoaderLab.REFUSED);
        check.due("was defined", lab.count(0), 2);
        check.due("not recorded", lab.recorded(1, 0), 0);
        lab.script(1, 0, 2, 0);
        check.due("the same one", lab.load(1, 0), 1);
        // Loader 3 need not agree and records; loader 4, its child, must agree with loader 0.
        lab.file(3, 0, Check.plain(0), 0);
        lab.parent(4, 3);
        lab.constrain(4, 1, 0);
        check.due("what the parent answers", lab.load(4, 0), LoaderLab.CONSTRAINT);
        check.due("the parent recorded it", lab.recorded(3, 0), 3);
        check.due("the child did not", lab.recorded(4, 0), 0);
    }
}

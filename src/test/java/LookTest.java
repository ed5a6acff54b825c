/** Promises 13 to 16: what is recorded, what a class is, and how many there are. */
public final class LookTest {
    private static final int[] FAR = {Integer.MIN_VALUE, -1, 31, 32, 1000, Integer.MAX_VALUE};

    private static final Check check = new Check();

    public static void main(String[] args) {
        recorded();
        recordedAtTheCorners();
        of();
        isA();
        isALong();
        isANone();
        count();
        countOfAFullLab();
        check.end();
    }

    private static void recorded() {
        check.about("promise 13");
        LoaderLab lab = Check.labWithFiles();
        lab.parent(3, 0);
        check.due("none", lab.recorded(3, 7), 0);
        lab.load(3, 7);
        check.due("by the one asked", lab.recorded(3, 7), 1);
        check.due("by its parent", lab.recorded(0, 7), 1);
        check.due("by another", lab.recorded(1, 7), 0);
        check.due("another name", lab.recorded(3, 6), 0);
        for (int far : FAR) {
            check.due("far loader", lab.recorded(far, 7), LoaderLab.REFUSED);
            check.due("far name", lab.recorded(3, far), LoaderLab.REFUSED);
        }
        check.due("loader 5", lab.recorded(5, 0), LoaderLab.REFUSED);
        check.due("name 8", lab.recorded(0, 8), LoaderLab.REFUSED);
    }

    /** The first and the last loader, the first and the last name: each cell is found alone. */
    private static void recordedAtTheCorners() {
        check.about("promise 13, the corners");
        for (int loader = 0; loader < 5; loader += 4) {
            for (int name = 0; name < 8; name += 7) {
                LoaderLab lab = Prepare.filesEverywhere();
                check.due("load", lab.load(loader, name), 1);
                for (int cell = 0; cell < 40; cell++) {
                    boolean here = cell / 8 == loader && cell % 8 == name;
                    check.due("recorded", lab.recorded(cell / 8, cell % 8), here ? 1 : 0);
                }
                for (int wrong : Prepare.NO_NAMES) {
                    check.due("name " + wrong, lab.recorded(loader, wrong), LoaderLab.REFUSED);
                }
                for (int wrong : Prepare.NO_LOADERS) {
                    check.due("loader " + wrong, lab.recorded(wrong, name), LoaderLab.REFUSED);
                }
                // Eight names on and one loader back it would be the same cell, if names went on into the next loader.
                check.due("beside", lab.recorded(loader - 1, name + 8), LoaderLab.REFUSED);
                check.due("beside", lab.recorded(loader + 1, name - 8), LoaderLab.REFUSED);
            }
        }
    }

    private static void of() {
        check.about("promise 14");
        LoaderLab lab = new LoaderLab();
        lab.file(2, 3, Check.plain(3), 0);
        lab.file(2, 4, Check.plain(4), 3);
        lab.file(2, 5, Check.parts(5, 3, 4), 2);
        check.due("load", lab.load(2, 5), 3);
        int[] want = {5, 2, 1, 2, 2, 0, 0, 0, 0};
        for (int what = 0; what < want.length; what++) {
            check.due("of(3, " + what + ")", lab.of(3, what), want[what]);
        }
        check.due("no superclass", lab.of(1, 2), 0);
        check.due("no interface", lab.of(1, 3), 0);
        check.due("marks", lab.of(2, 4), 3);
        for (int reference = 0; reference < 4; reference++) {
            lab.refer(3, reference, 3 + reference);
            lab.resolve(3, reference);
        }
        int[] kept = {1, 2, 3, LoaderLab.NO_CLASS};
        for (int reference = 0; reference < 4; reference++) {
            check.due("kept", lab.of(3, 5 + reference), kept[reference]);
            check.due("another class's", lab.of(2, 5 + reference), 0);
        }
        check.due("of(3, 9)", lab.of(3, 9), LoaderLab.REFUSED);
        check.due("class 0", lab.of(0, 0), LoaderLab.REFUSED);
        check.due("class 4", lab.of(4, 0), LoaderLab.REFUSED);
        for (int far : FAR) {
            check.due("far class", lab.of(far, 0), LoaderLab.REFUSED);
            check.due("far what", lab.of(3, far), LoaderLab.REFUSED);
        }
    }

    /** Interfaces 1 (name 0) and 2 (name 1, of 0); class 3 (name 2); 4 (name 3) of 2 and 1; 5 (name 4) of 3. */
    private static void isA() {
        check.about("promise 15");
        LoaderLab lab = new LoaderLab();
        lab.file(0, 0, Check.plain(0), 1);
        lab.file(0, 1, Check.parts(1, Check.NONE, 0), 1);
        lab.file(0, 2, Check.plain(2), 0);
        lab.file(0, 3, Check.parts(3, 2, 1), 0);
        lab.file(0, 4, Check.parts(4, 3, Check.NONE), 0);
        for (int name = 0; name < 5; name++) {
            check.due("load", lab.load(0, name), name + 1);
        }
        String[] stands = {"1", "12", "3", "1234", "12345"};
        for (int number = -1; number <= 6; number++) {
            for (int other = -1; other <= 6; other++) {
                boolean both = number >= 1 && number <= 5 && other >= 1 && other <= 5;
                boolean want = both && stands[number - 1].contains("" + other);
                check.due("isA(" + number + ", " + other + ")", lab.isA(number, other), want);
            }
        }
        for (int far : FAR) {
            check.due("far class", lab.isA(far, 1), false);
            check.due("far other", lab.isA(5, far), false);
            check.due("both far", lab.isA(far, far), false);
        }
    }

    /** No superclass and no interface are told as 0: that is no class that anything could be. */
    private static void isANone() {
        check.about("promise 15, \"false for others\"");
        LoaderLab lab = Check.labWithFiles();
        lab.load(0, 0);
        lab.load(0, 1);
        for (int number = 1; number <= 2; number++) {
            check.due("itself", lab.isA(number, number), true);
            check.due("the other", lab.isA(number, 3 - number), false);
            for (int none : new int[] {Integer.MIN_VALUE, -1, 0, 3, 30, 31, 32, 32 + number, Integer.MAX_VALUE}) {
                check.due("isA(" + number + ", " + none + ")", lab.isA(number, none), false);
                check.due("isA(" + none + ", " + number + ")", lab.isA(none, number), false);
                check.due("isA(" + none + ", " + none + ")", lab.isA(none, none), false);
            }
        }
    }

    /** Thirty classes, each on top of the one before: eight names in each loader, then the next loader's first. */
    private static void isALong() {
        check.about("promise 15, thirty in a row");
        LoaderLab lab = new LoaderLab();
        for (int k = 0; k < 30; k++) {
            // Each new loader takes the last name of the one before from it, and goes through the names from there.
            int loader = k / 7;
            int name = k % 8;
            int below = k == 0 ? Check.NONE : (k - 1) % 8;
            lab.file(loader, name, Check.parts(name, below, Check.NONE), 0);
            if (k > 0 && (k - 1) / 7 != loader) {
                lab.script(loader, below, 2, loader - 1);
            }
            check.due("load", lab.load(loader, name), k + 1);
        }
        check.due("the last is the first", lab.isA(30, 1), true);
        check.due("the first is the last", lab.isA(1, 30), false);
        check.due("the last is itself", lab.isA(30, 30), true);
        for (int number = 1; number <= 30; number++) {
            check.due("of", lab.of(number, 2), number - 1);
            for (int other = 1; other <= 30; other++) {
                if (number % 7 == 0 || other % 7 == 0) {
                    check.due("isA(" + number + ", " + other + ")", lab.isA(number, other), number >= other);
                }
            }
        }
    }

    private static void count() {
        check.about("promise 16");
        LoaderLab lab = Check.labWithFiles();
        lab.parent(1, 0);
        lab.file(1, 0, Check.plain(0), 4);
        lab.load(1, 3);
        lab.load(0, 4);
        lab.load(1, 5);
        lab.constrain(0, 3, 1);
        check.due("classes", lab.count(0), 3);
        check.due("recorded", lab.count(1), 5);
        check.due("files", lab.count(2), 9);
        check.due("pairs", lab.count(3), 1);
        check.due("count(4)", lab.count(4), LoaderLab.REFUSED);
        for (int far : FAR) {
            check.due("far", lab.count(far), LoaderLab.REFUSED);
        }
        lab.noFile(0, 3);
        check.due("files, one less", lab.count(2), 8);
        check.due("classes stay", lab.count(0), 3);
    }

    private static void countOfAFullLab() {
        check.about("promise 16, all that there can be");
        LoaderLab lab = Prepare.filesEverywhere();
        check.due("files", lab.count(2), 40);
        for (int name = 0; name < 8; name++) {
            for (int loader = 4; loader > 0; loader--) {
                check.due("constrain", lab.constrain(loader, loader - 1, name), 0);
                lab.script(loader, name, 2, loader - 1);
            }
            check.due("load", lab.load(4, name), name + 1);
            check.due("recorded", lab.count(1), 5 * (name + 1));
            check.due("pairs", lab.count(3), 10 * (name + 1));
        }
        check.due("classes", lab.count(0), 8);
        LoaderLab other = new LoaderLab();
        Prepare.fill(other, 30);
        check.due("classes", other.count(0), 30);
        check.due("recorded, one of them", other.count(1), 1);
        check.due("load", other.load(3, 6), LoaderLab.FULL);
        check.due("classes", other.count(0), 30);
        for (int cell = 0; cell < 40; cell++) {
            check.due("noFile", lab.noFile(cell / 8, cell % 8), 0);
            check.due("files", lab.count(2), 39 - cell);
        }
        check.due("recorded, without a file", lab.count(1), 40);
    }
}

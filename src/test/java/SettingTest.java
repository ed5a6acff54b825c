/** Promises 1 to 5: a new object, and what is set of its loaders. */
public final class SettingTest {
    private static final int[] FAR = {Integer.MIN_VALUE, -1000, -2, 1000, Integer.MAX_VALUE};

    private static final Check check = new Check();

    public static void main(String[] args) {
        newObject();
        objectsShareNothing();
        parent();
        file();
        leastAndGreatestFile();
        noFile();
        script();
        check.end();
    }

    private static void newObject() {
        check.about("promise 1");
        LoaderLab lab = new LoaderLab();
        for (int what = 0; what < 4; what++) {
            check.due("count(" + what + ")", lab.count(what), 0);
        }
        check.due("requests", lab.requests(), 0);
        check.due("cause(0)", lab.cause(0), LoaderLab.REFUSED);
        check.due("cause(1)", lab.cause(1), LoaderLab.REFUSED);
        for (int loader = 0; loader < 5; loader++) {
            for (int name = 0; name < 8; name++) {
                check.due("recorded", lab.recorded(loader, name), 0);
                check.due("noFile", lab.noFile(loader, name), LoaderLab.REFUSED);
                for (int other = 0; other < 5; other++) {
                    check.due("agree", lab.agree(loader, other, name), loader == other);
                }
                check.due("load", lab.load(loader, name), LoaderLab.NOT_FOUND);
                check.due("requests without a parent", lab.requests(), 1);
            }
        }
        for (int number = 0; number <= 31; number++) {
            check.due("of", lab.of(number, 0), LoaderLab.REFUSED);
            check.due("isA", lab.isA(number, number), false);
            check.due("refer", lab.refer(number, 0, 0), LoaderLab.REFUSED);
            check.due("resolve", lab.resolve(number, 0), LoaderLab.REFUSED);
        }
    }

    private static void objectsShareNothing() {
        check.about("promise 1, two objects");
        LoaderLab full = Prepare.filesEverywhere();
        LoaderLab lab = new LoaderLab();
        full.parent(4, 0);
        full.script(3, 3, 5, 0);
        full.constrain(0, 1, 0);
        full.load(4, 0);
        full.refer(1, 0, 1);
        full.resolve(1, 0);
        full.load(3, 3);
        for (int what = 0; what < 4; what++) {
            check.due("count(" + what + ")", lab.count(what), 0);
        }
        check.due("cause", lab.cause(0), LoaderLab.REFUSED);
        check.due("requests", lab.requests(), 0);
        check.due("recorded", lab.recorded(4, 0), 0);
        check.due("of", lab.of(1, 5), LoaderLab.REFUSED);
        check.due("agree", lab.agree(0, 1, 0), false);
        check.due("load, no parent and no file", lab.load(4, 0), LoaderLab.NOT_FOUND);
        check.due("requests", lab.requests(), 1);
        check.due("load, no script", lab.load(3, 3), LoaderLab.NOT_FOUND);
        check.due("the full one's load", full.load(3, 3), LoaderLab.DENIED);
        check.due("requests of the other", lab.requests(), 1);
    }

    private static void parent() {
        check.about("promise 2");
        for (int loader = -2; loader < 7; loader++) {
            for (int parent = -3; parent < 7; parent++) {
                boolean fine = loader >= 1 && loader <= 4 && parent >= -1 && parent < loader;
                check.due("parent(" + loader + ", " + parent + ")", new LoaderLab().parent(loader, parent),
                    fine ? 0 : LoaderLab.REFUSED);
            }
        }
        for (int far : FAR) {
            check.due("far loader", new LoaderLab().parent(far, -1), LoaderLab.REFUSED);
            check.due("far parent", new LoaderLab().parent(1, far), LoaderLab.REFUSED);
        }
        LoaderLab lab = Check.labWithFiles();
        lab.parent(4, 0);
        check.due("load by the parent", lab.load(4, 0), 1);
        check.due("refused parent", lab.parent(4, 4), LoaderLab.REFUSED);
        check.due("the parent stays", lab.load(4, 1), 2);
        check.due("another parent", lab.parent(4, 3), 0);
        check.due("load without the parent's file", lab.load(4, 2), LoaderLab.NOT_FOUND);
        check.due("requests", lab.requests(), 2);
        check.due("no parent any more", lab.parent(4, -1), 0);
        check.due("load alone", lab.load(4, 2), LoaderLab.NOT_FOUND);
        check.due("requests alone", lab.requests(), 1);
    }

    private static void file() {
        check.about("promise 3");
        for (int parts = -1; parts <= 729; parts++) {
            boolean fine = parts >= 0 && parts <= 728 && parts % 9 < 8;
            check.due("parts " + parts, new LoaderLab().file(1, 1, parts, 0), fine ? 0 : LoaderLab.REFUSED);
        }
        LoaderLab lab = new LoaderLab();
        for (int marks = -1; marks <= 8; marks++) {
            boolean fine = marks >= 0 && marks <= 7;
            check.due("marks " + marks, lab.file(1, 1, 720, marks), fine ? 0 : LoaderLab.REFUSED);
        }
        for (int far : FAR) {
            check.due("far loader", lab.file(far, 1, 720, 0), LoaderLab.REFUSED);
            check.due("far name", lab.file(1, far, 720, 0), LoaderLab.REFUSED);
            check.due("far parts", lab.file(1, 1, far == 1000 ? 729 : far, 0), LoaderLab.REFUSED);
            check.due("far marks", lab.file(1, 1, 720, far), LoaderLab.REFUSED);
        }
        check.due("loader 5", lab.file(5, 1, 720, 0), LoaderLab.REFUSED);
        check.due("loader -1", lab.file(-1, 1, 720, 0), LoaderLab.REFUSED);
        check.due("name 8", lab.file(1, 8, 720, 0), LoaderLab.REFUSED);
        check.due("name -1", lab.file(1, -1, 720, 0), LoaderLab.REFUSED);
        check.due("one file, however often it was given", lab.count(2), 1);
        check.due("in place of a broken one", lab.file(1, 1, Check.plain(1), 0), 0);
        check.due("load", lab.load(1, 1), 1);
        check.due("a file does not change the class", lab.file(1, 1, Check.plain(1), 3), 0);
        check.due("marks of the class", lab.of(1, 4), 0);
        check.due("load again", lab.load(1, 1), 1);
    }

    /** The parts 0 are a file too, that says 0 and stands on the name 0; 727 is the last that says a name. */
    private static void leastAndGreatestFile() {
        check.about("promise 3, \"0 .. 728 with says 0 .. 7\"");
        LoaderLab lab = new LoaderLab();
        check.due("parts 0", lab.file(0, 0, 0, 0), 0);
        check.due("files", lab.count(2), 1);
        check.due("load", lab.load(0, 0), LoaderLab.CIRCULAR);
        lab.script(0, 0, 1, 0);
        check.due("load by OWN", lab.load(0, 0), LoaderLab.CIRCULAR);
        check.due("noFile", lab.noFile(0, 0), 0);
        check.due("load without it", lab.load(0, 0), LoaderLab.NOT_FOUND);
        check.due("parts 728", lab.file(4, 7, 728, 0), LoaderLab.REFUSED);
        check.due("files", lab.count(2), 0);
        check.due("parts 727", lab.file(4, 7, 727, 3), 0);
        check.due("load", lab.load(4, 7), 1);
        check.due("superclass", lab.of(1, 2), 0);
        check.due("interface", lab.of(1, 3), 0);
        check.due("marks", lab.of(1, 4), 3);
    }

    private static void noFile() {
        check.about("promise 4");
        LoaderLab lab = Check.labWithFiles();
        check.due("load", lab.load(0, 7), 1);
        check.due("noFile", lab.noFile(0, 7), 0);
        check.due("count", lab.count(2), 7);
        check.due("noFile again", lab.noFile(0, 7), LoaderLab.REFUSED);
        check.due("the class stays", lab.load(0, 7), 1);
        check.due("noFile of a name not loaded", lab.noFile(0, 6), 0);
        check.due("load of it", lab.load(0, 6), LoaderLab.NOT_FOUND);
        check.due("another loader", lab.noFile(1, 0), LoaderLab.REFUSED);
        check.due("file for it", lab.file(0, 6, Check.plain(6), 0), 0);
        check.due("load of it now", lab.load(0, 6), 2);
        for (int wrong : new int[] {Integer.MIN_VALUE, -1, 8, Integer.MAX_VALUE}) {
            check.due("wrong loader", lab.noFile(wrong, 0), LoaderLab.REFUSED);
            check.due("wrong name", lab.noFile(0, wrong), LoaderLab.REFUSED);
        }
        check.due("loader 5", lab.noFile(5, 0), LoaderLab.REFUSED);
    }

    private static void script() {
        check.about("promise 5");
        for (int way = -1; way <= 7; way++) {
            for (int m = -1; m <= 8; m++) {
                boolean fine = way >= 0 && way <= 6;
                fine = fine && (way != 2 || m >= 0 && m <= 4);
                fine = fine && (way != 3 && way != 6 || m >= 0 && m <= 7);
                check.due("script(0, 0, " + way + ", " + m + ")", new LoaderLab().script(0, 0, way, m),
                    fine ? 0 : LoaderLab.REFUSED);
            }
        }
        LoaderLab lab = new LoaderLab();
        for (int far : FAR) {
            check.due("far loader", lab.script(far, 0, 0, 0), LoaderLab.REFUSED);
            check.due("far name", lab.script(0, far, 0, 0), LoaderLab.REFUSED);
            check.due("far way", lab.script(0, 0, far, 0), LoaderLab.REFUSED);
            for (int way = 0; way <= 6; way++) {
                boolean looks = way == 2 || way == 3 || way == 6;
                check.due("way " + way + ", far m", lab.script(1, 0, way, far), looks ? LoaderLab.REFUSED : 0);
            }
        }
        check.due("loader 5", lab.script(5, 0, 0, 0), LoaderLab.REFUSED);
        check.due("loader -1", lab.script(-1, 0, 0, 0), LoaderLab.REFUSED);
        check.due("name 8", lab.script(0, 8, 0, 0), LoaderLab.REFUSED);
        check.due("name -1", lab.script(0, -1, 0, 0), LoaderLab.REFUSED);
        check.due("DENY", lab.script(2, 3, 5, 0), 0);
        check.due("refused script", lab.script(2, 3, 2, 5), LoaderLab.REFUSED);
        check.due("the script stays", lab.load(2, 3), LoaderLab.DENIED);
        check.due("for the name alone", lab.load(2, 2), LoaderLab.NOT_FOUND);
        check.due("for the loader alone", lab.load(3, 3), LoaderLab.NOT_FOUND);
    }
}

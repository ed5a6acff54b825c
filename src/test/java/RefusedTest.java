import java.util.ArrayList;
import java.util.List;

/**
 * A refused call changes nothing, whatever promise refuses it: of two labs that were made alike one gets the refused
 * call, and then both are looked at from all sides and must answer alike.
 */
public final class RefusedTest {
    private static final int[] NO_CLASSES = {Integer.MIN_VALUE, -1, 0, 4, 31, 32, 33, Integer.MAX_VALUE};
    private static final int[] NO_REFERENCES = {Integer.MIN_VALUE, -4, -1, 4, 5, Integer.MAX_VALUE};

    private static final Check check = new Check();
    private static final List<Integer> untouched = look(ready());

    private interface Call {
        int on(LoaderLab lab);
    }

    public static void main(String[] args) {
        check.about("the lab to start from");
        check.due("answers alike when nothing is refused", look(ready()).equals(untouched), true);
        check.due("answers another way when something is done", done(), true);
        parent();
        file();
        noFile();
        script();
        load();
        refer();
        resolve();
        constrain();
        looking();
        check.end();
    }

    /** Three classes of three loaders, some references kept, and a last load that failed with a cause. */
    private static LoaderLab ready() {
        LoaderLab lab = Prepare.filesEverywhere();
        lab.parent(1, 0);
        lab.parent(2, 1);
        lab.script(3, 1, 2, 1);
        lab.script(3, 2, 5, 0);
        lab.script(4, 3, 6, 5);
        lab.script(4, 4, 4, 0);
        lab.constrain(0, 3, 1);
        lab.constrain(4, 1, 2);
        lab.load(2, 0);
        lab.load(3, 0);
        lab.load(4, 0);
        for (int reference = 0; reference < 4; reference += 3) {
            lab.refer(1, reference, 5);
            lab.refer(2, reference, 6);
            lab.refer(3, reference, 7);
        }
        lab.refer(2, 1, 2);
        lab.refer(2, 2, 0);
        lab.resolve(2, 1);
        lab.resolve(2, 2);
        lab.noFile(4, 6);
        lab.file(4, 7, Check.parts(7, 6, Check.NONE), 0);
        lab.load(4, 7);
        return lab;
    }

    private static List<Integer> look(LoaderLab lab) {
        List<Integer> seen = new ArrayList<>(List.of(lab.cause(0), lab.cause(1), lab.requests()));
        for (int what = 0; what < 4; what++) {
            seen.add(lab.count(what));
        }
        for (int number = 1; number <= 4; number++) {
            for (int what = 0; what <= 8; what++) {
                seen.add(lab.of(number, what));
            }
        }
        for (int name = 0; name < 8; name++) {
            for (int a = 0; a < 5; a++) {
                seen.add(lab.recorded(a, name));
                for (int b = a + 1; b < 5; b++) {
                    seen.add(lab.agree(a, b, name) ? 1 : 0);
                }
            }
        }
        act(lab, seen);
        return seen;
    }

    /** What shows by acting alone: references, parents, scripts and files. */
    private static void act(LoaderLab lab, List<Integer> seen) {
        for (int number = 1; number <= 3; number++) {
            for (int reference = 0; reference < 4; reference++) {
                seen.add(lab.resolve(number, reference));
            }
        }
        for (int loader = 4; loader >= 0; loader--) {
            for (int name = 7; name >= 0; name--) {
                seen.add(lab.load(loader, name));
                seen.add(lab.requests());
            }
        }
        for (int number = 4; number <= 20; number++) {
            seen.add(lab.of(number, 1));
            seen.add(lab.of(number, 4));
        }
        for (int loader = 0; loader < 5; loader++) {
            for (int name = 0; name < 8; name++) {
                seen.add(lab.noFile(loader, name));
            }
        }
    }

    /** That the looking is sharp: calls that are not refused are seen in it. */
    private static boolean done() {
        Call[] calls = {
            lab -> lab.parent(4, 3), lab -> lab.parent(2, -1), lab -> lab.file(4, 6, Check.plain(6), 0),
            lab -> lab.file(1, 3, Check.plain(3), 1) + lab.parent(1, -1), lab -> lab.noFile(0, 7),
            lab -> lab.script(3, 2, 0, 0), lab -> lab.script(4, 3, 6, 4), lab -> lab.load(0, 0),
            lab -> lab.refer(1, 1, 5), lab -> lab.resolve(1, 0), lab -> lab.constrain(0, 4, 3),
        };
        boolean sharp = true;
        for (Call call : calls) {
            LoaderLab lab = ready();
            sharp &= call.on(lab) >= 0;
            sharp &= !look(lab).equals(untouched);
        }
        return sharp;
    }

    private static void refused(String what, Call call) {
        answers(what, LoaderLab.REFUSED, call);
    }

    private static void answers(String what, int want, Call call) {
        LoaderLab lab = ready();
        check.due(what, call.on(lab), want);
        check.due(what + ", nothing changed", look(lab).equals(untouched), true);
    }

    private static void parent() {
        check.about("promise 2, refused");
        for (int loader : new int[] {Integer.MIN_VALUE, -1, 0, 5, Integer.MAX_VALUE}) {
            for (int parent = -1; parent <= 1; parent++) {
                int given = parent;
                refused("parent(" + loader + ", " + parent + ")", lab -> lab.parent(loader, given));
            }
        }
        for (int loader = 1; loader < 5; loader++) {
            int child = loader;
            for (int parent : new int[] {Integer.MIN_VALUE, -2, loader, loader + 1, 5, Integer.MAX_VALUE}) {
                refused("parent(" + loader + ", " + parent + ")", lab -> lab.parent(child, parent));
            }
        }
    }

    private static void file() {
        check.about("promise 3, refused");
        for (int loader : Prepare.NO_LOADERS) {
            refused("loader " + loader, lab -> lab.file(loader, 5, Check.plain(0), 1));
        }
        for (int name : Prepare.NO_NAMES) {
            refused("name " + name, lab -> lab.file(3, name, Check.plain(0), 1));
        }
        for (int parts : new int[] {Integer.MIN_VALUE, -9, -1, 8, 17, 80, 728, 729, 730, Integer.MAX_VALUE}) {
            refused("parts " + parts, lab -> lab.file(3, 5, parts, 1));
            refused("parts " + parts + " where there is no file", lab -> lab.file(4, 6, parts, 1));
        }
        for (int marks : new int[] {Integer.MIN_VALUE, -1, 8, 9, Integer.MAX_VALUE}) {
            refused("marks " + marks, lab -> lab.file(3, 5, Check.plain(5), marks));
            refused("marks " + marks + " where there is no file", lab -> lab.file(4, 6, Check.plain(6), marks));
        }
    }

    private static void noFile() {
        check.about("promise 4, refused");
        for (int loader : Prepare.NO_LOADERS) {
            refused("loader " + loader, lab -> lab.noFile(loader, 5));
        }
        for (int name : Prepare.NO_NAMES) {
            refused("name " + name, lab -> lab.noFile(3, name));
        }
        refused("no file there", lab -> lab.noFile(4, 6));
    }

    private static void script() {
        check.about("promise 5, refused");
        for (int loader : Prepare.NO_LOADERS) {
            refused("loader " + loader, lab -> lab.script(loader, 5, 5, 0));
            refused("ASK " + loader, lab -> lab.script(3, 5, 2, loader));
        }
        for (int name : Prepare.NO_NAMES) {
            refused("name " + name, lab -> lab.script(3, name, 5, 0));
            refused("OTHER " + name, lab -> lab.script(3, 5, 3, name));
            refused("FIRST " + name, lab -> lab.script(4, 3, 6, name));
        }
        for (int way : new int[] {Integer.MIN_VALUE, -1, 7, 8, Integer.MAX_VALUE}) {
            refused("way " + way, lab -> lab.script(3, 2, way, 0));
        }
    }

    private static void load() {
        check.about("promise 6, refused");
        for (int loader : Prepare.NO_LOADERS) {
            refused("loader " + loader, lab -> lab.load(loader, 5));
        }
        for (int name : Prepare.NO_NAMES) {
            refused("name " + name, lab -> lab.load(3, name));
        }
    }

    private static void refer() {
        check.about("promise 7, refused");
        for (int number : NO_CLASSES) {
            refused("class " + number, lab -> lab.refer(number, 1, 1));
        }
        for (int reference : NO_REFERENCES) {
            refused("reference " + reference, lab -> lab.refer(1, reference, 1));
            refused("reference " + reference, lab -> lab.refer(2, reference, 1));
        }
        for (int name : Prepare.NO_NAMES) {
            refused("name " + name, lab -> lab.refer(1, 0, name));
            refused("name " + name + " where there is none", lab -> lab.refer(1, 1, name));
        }
        refused("a failure is kept", lab -> lab.refer(2, 1, 1));
        refused("a class is kept", lab -> lab.refer(2, 2, 1));
        refused("a class is kept, the same name", lab -> lab.refer(2, 2, 0));
    }

    private static void resolve() {
        check.about("promise 8, refused");
        for (int number : NO_CLASSES) {
            refused("class " + number, lab -> lab.resolve(number, 0));
        }
        for (int reference : NO_REFERENCES) {
            refused("reference " + reference, lab -> lab.resolve(1, reference));
            refused("reference " + reference, lab -> lab.resolve(2, reference));
        }
        refused("none", lab -> lab.resolve(1, 1));
        refused("none", lab -> lab.resolve(3, 2));
    }

    private static void constrain() {
        check.about("promise 9, refused");
        for (int loader : Prepare.NO_LOADERS) {
            refused("first " + loader, lab -> lab.constrain(loader, 3, 5));
            refused("second " + loader, lab -> lab.constrain(3, loader, 5));
            refused("both " + loader, lab -> lab.constrain(loader, loader, 5));
        }
        for (int name : Prepare.NO_NAMES) {
            refused("name " + name, lab -> lab.constrain(3, 2, name));
        }
        answers("broken at once", LoaderLab.CONSTRAINT, lab -> lab.constrain(3, 4, 0));
        answers("broken at once", LoaderLab.CONSTRAINT, lab -> lab.constrain(4, 2, 0));
    }

    /** Looks with wrong numbers, where a lab that counts on would find what is beside. */
    private static void looking() {
        check.about("promises 10, 11 and 13 to 16, refused");
        for (int loader : Prepare.NO_LOADERS) {
            refused("recorded", lab -> lab.recorded(loader, 0));
            answers("agree, first", 0, lab -> lab.agree(loader, 3, 1) ? 1 : 0);
            answers("agree, second", 0, lab -> lab.agree(3, loader, 1) ? 1 : 0);
            answers("agree, both", 0, lab -> lab.agree(loader, loader, 1) ? 1 : 0);
        }
        for (int name : Prepare.NO_NAMES) {
            refused("recorded", lab -> lab.recorded(0, name));
            answers("agree", 0, lab -> lab.agree(0, 0, name) ? 1 : 0);
        }
        for (int number : NO_CLASSES) {
            refused("of", lab -> lab.of(number, 0));
            refused("of, kept", lab -> lab.of(number, 5));
            answers("isA, first", 0, lab -> lab.isA(number, 1) ? 1 : 0);
            answers("isA, second", 0, lab -> lab.isA(1, number) ? 1 : 0);
            answers("isA, both", 0, lab -> lab.isA(number, number) ? 1 : 0);
        }
        for (int wrong : new int[] {Integer.MIN_VALUE, -1, 9, 10, Integer.MAX_VALUE}) {
            refused("of", lab -> lab.of(1, wrong));
            refused("cause", lab -> lab.cause(wrong));
            refused("count", lab -> lab.count(wrong));
        }
        refused("cause(2)", lab -> lab.cause(2));
        refused("count(4)", lab -> lab.count(4));
    }
}

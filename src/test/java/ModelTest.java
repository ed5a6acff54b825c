import java.util.Map;
import java.util.Random;
import java.util.TreeMap;

/** Runs of 512 mixed calls, the same ones always, each answer compared with the Model's. */
public final class ModelTest {
    private static final int RUNS = 3000;
    private static final int CALLS = 512;
    private static final int[] FAR = {Integer.MIN_VALUE, -2, -1, 5, 8, 9, 31, 729, Integer.MAX_VALUE};

    private static final Check check = new Check();
    // How often each answer of load and resolve came: what never came was never compared.
    private static final Map<Integer, Integer> seen = new TreeMap<>();

    private final Random random;
    private final LoaderLab lab = new LoaderLab();
    private final Model model = new Model();
    // How likely a number is out of range, a file plain and a script the first one: other runs, other ways to fail.
    private final int oddity;
    private final int plainness;

    private ModelTest(int run) {
        random = new Random(run);
        oddity = run % 3 == 0 ? 10 : 300;
        plainness = run / 3 % 6;
    }

    public static void main(String[] args) {
        int deepest = 0;
        for (int run = 0; run < RUNS; run++) {
            check.about("run " + run);
            ModelTest test = new ModelTest(run);
            for (int call = 0; call < CALLS; call++) {
                test.call(call);
            }
            deepest = Math.max(deepest, test.model.deepest);
        }
        for (int code = LoaderLab.DENIED; code <= LoaderLab.REFUSED; code++) {
            check.due("some answer was " + code, seen.containsKey(code), true);
        }
        check.due("deep requests", deepest > 12, true);
        System.out.println("answers: " + seen + ", deepest " + deepest);
        check.end();
    }

    private boolean likely(int outOfFive) {
        return random.nextInt(5) < outOfFive;
    }

    private int pick(int size) {
        return random.nextInt(oddity) == 0 ? FAR[random.nextInt(FAR.length)] : random.nextInt(size);
    }

    private int number() {
        return pick(Math.max(2, model.count(0) + 2));
    }

    private int parts(int name) {
        if (random.nextInt(oddity) == 0) {
            return random.nextInt(740) - 5;
        }
        int says = random.nextInt(20) == 0 ? random.nextInt(8) : name & 7;
        int superclass = likely(plainness) ? 8 : random.nextInt(9);
        int face = likely(plainness) ? 8 : random.nextInt(9);
        return Check.parts(says, superclass, face);
    }

    private int marks() {
        if (random.nextInt(oddity) == 0) {
            return random.nextInt(12) - 2;
        }
        return random.nextInt(12) == 0 ? random.nextInt(8) : random.nextInt(3) == 0 ? 1 : 0;
    }

    private void same(String call, int got, int want) {
        check.due(call, got, want);
    }

    private void ended(String call, int got, int want) {
        same(call, got, want);
        seen.merge(Math.min(got, 1), 1, Integer::sum);
    }

    private void call(int k) {
        int kind = random.nextInt(k < 40 + 30 * plainness ? 8 : 24);
        if (kind >= 8 && likely(plainness - 2)) {
            act(0);
        } else if (kind < 8) {
            set(kind);
        } else if (kind < 18) {
            act(kind - 8);
        } else {
            look(random.nextInt(8));
        }
    }

    private void set(int kind) {
        int loader = pick(5);
        int name = pick(8);
        if (kind == 0) {
            int parent = pick(6) - 1;
            same("parent(" + loader + ", " + parent + ")", lab.parent(loader, parent), model.parent(loader, parent));
        } else if (kind < 5) {
            int parts = parts(name);
            int marks = marks();
            same("file", lab.file(loader, name, parts, marks), model.file(loader, name, parts, marks));
        } else if (kind == 5) {
            same("noFile", lab.noFile(loader, name), model.noFile(loader, name));
        } else {
            int way = likely(plainness) ? plainness / 4 : pick(7);
            int m = pick(way == 2 ? 5 : 8);
            same("script", lab.script(loader, name, way, m), model.script(loader, name, way, m));
        }
    }

    private void act(int kind) {
        int loader = pick(5);
        int name = pick(8);
        int number = number();
        int reference = pick(4);
        if (kind < 3) {
            ended("load(" + loader + ", " + name + ")", lab.load(loader, name), model.load(loader, name));
        } else if (kind < 5) {
            same("refer", lab.refer(number, reference, name), model.refer(number, reference, name));
        } else if (kind < 7) {
            ended("resolve", lab.resolve(number, reference), model.resolve(number, reference));
        } else if (kind == 7) {
            int other = pick(5);
            same("constrain", lab.constrain(loader, other, name), model.constrain(loader, other, name));
        } else if (kind == 8) {
            int cause = pick(3);
            same("cause(" + cause + ")", lab.cause(cause), model.cause(cause));
        } else {
            same("requests", lab.requests(), model.requests());
        }
    }

    private void look(int kind) {
        int loader = pick(5);
        int name = pick(8);
        int number = number();
        int other = number();
        int what = pick(10);
        if (kind == 0) {
            int second = pick(5);
            check.due("agree", lab.agree(loader, second, name), model.agree(loader, second, name));
        } else if (kind == 1) {
            same("recorded", lab.recorded(loader, name), model.recorded(loader, name));
        } else if (kind < 5) {
            same("of(" + number + ", " + what + ")", lab.of(number, what), model.of(number, what));
        } else if (kind < 7) {
            check.due("isA(" + number + ", " + other + ")", lab.isA(number, other), model.isA(number, other));
        } else {
            int counted = pick(5);
            same("count(" + counted + ")", lab.count(counted), model.count(counted));
        }
    }
}

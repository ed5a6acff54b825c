/** Labs brought to where a test begins: requests that end with a chosen code, and labs that are full. */
final class Prepare {
    /** Every code that a request can end with. */
    static final int[] CODES = {
        LoaderLab.FULL, LoaderLab.NOT_FOUND, LoaderLab.NO_CLASS, LoaderLab.WRONG_NAME, LoaderLab.FORMAT,
        LoaderLab.CIRCULAR, LoaderLab.KIND, LoaderLab.CONSTRAINT, LoaderLab.STUCK, LoaderLab.DENIED,
    };

    /** Numbers that are no loader. */
    static final int[] NO_LOADERS = {Integer.MIN_VALUE, -8, -1, 5, 6, 13, Integer.MAX_VALUE};

    /** Numbers that are no name. */
    static final int[] NO_NAMES = {Integer.MIN_VALUE, -8, -1, 8, 9, 16, Integer.MAX_VALUE};

    private Prepare() { }

    /** A lab where every loader has a plain file for each name, and none has a parent. */
    static LoaderLab filesEverywhere() {
        LoaderLab lab = new LoaderLab();
        for (int loader = 0; loader < 5; loader++) {
            for (int name = 0; name < 8; name++) {
                lab.file(loader, name, Check.plain(name), 0);
            }
        }
        return lab;
    }

    /** Defines classes till there are so many: loader 3 may never record the name 6, but defines it when asked. */
    static void fill(LoaderLab lab, int classes) {
        lab.file(4, 6, Check.plain(6), 0);
        lab.load(4, 6);
        lab.file(3, 6, Check.plain(6), 0);
        lab.constrain(3, 4, 6);
        for (int k = lab.count(0); k < classes; k++) {
            lab.load(3, 6);
        }
    }

    /**
     * From here on a request to loader 0 for the name 0 ends with the code, which has no cause; it uses the name 7 of
     * loader 0, the name 0 of loader 4, and what fill uses.
     */
    static void failing(LoaderLab lab, int code) {
        lab.file(0, 0, Check.plain(0), 0);
        if (code == LoaderLab.FULL) {
            fill(lab, 30);
        } else if (code == LoaderLab.NOT_FOUND) {
            lab.noFile(0, 0);
        } else if (code == LoaderLab.NO_CLASS) {
            lab.script(0, 0, 4, 0);
        } else if (code == LoaderLab.WRONG_NAME) {
            lab.file(0, 0, Check.plain(1), 0);
        } else if (code == LoaderLab.FORMAT) {
            lab.file(0, 0, Check.plain(0), 4);
        } else if (code == LoaderLab.CIRCULAR) {
            lab.file(0, 0, Check.parts(0, 0, Check.NONE), 0);
        } else if (code == LoaderLab.KIND) {
            lab.file(0, 7, Check.plain(7), 2);
            lab.file(0, 0, Check.parts(0, 7, Check.NONE), 0);
        } else if (code == LoaderLab.CONSTRAINT) {
            lab.file(4, 0, Check.plain(0), 0);
            lab.load(4, 0);
            lab.constrain(0, 4, 0);
        } else if (code == LoaderLab.STUCK) {
            lab.script(0, 0, 2, 0);
        } else {
            lab.script(0, 0, 5, 0);
        }
    }

    /** How many requests such a request begins, itself among them. */
    static int begunBy(int code) {
        return code == LoaderLab.KIND || code == LoaderLab.STUCK ? 2 : 1;
    }
}

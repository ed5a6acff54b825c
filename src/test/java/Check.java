/** What the tests share: counts the answers that are not as due, and says files as the document tells them. */
final class Check {
    /** No superclass, or no interface, in a file. */
    static final int NONE = 8;

    private int wrong = 0;
    private String promise = "";

    /** The answers from here on are about this promise. */
    void about(String what) {
        promise = what;
    }

    void due(String call, int got, int want) {
        if (got != want) {
            wrong++;
            System.out.println(promise + ": " + call + " answered " + got + ", due is " + want);
        }
    }

    void due(String call, boolean got, boolean want) {
        due(call, got ? 1 : 0, want ? 1 : 0);
    }

    void end() {
        System.out.println(wrong == 0 ? "all answers are as due" : wrong + " answers are not as due");
        if (wrong != 0) {
            System.exit(1);
        }
    }

    static int parts(int says, int superclass, int face) {
        return says + 9 * superclass + 81 * face;
    }

    /** The parts of a file that says a name and stands on nothing. */
    static int plain(int says) {
        return parts(says, NONE, NONE);
    }

    /** A lab whose loader 0 has a plain file for each name. */
    static LoaderLab labWithFiles() {
        LoaderLab lab = new LoaderLab();
        for (int name = 0; name < 8; name++) {
            lab.file(0, name, plain(name), 0);
        }
        return lab;
    }
}

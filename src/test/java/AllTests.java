/** Runs every test of the project; ends with exit code 1 if one fails. Its arguments: paths of program and document. */
public final class AllTests {
    private AllTests() {
    }

    public static void main(String[] args) {
        Check check = new Check();
        TextTests.all(check);
        ScriptTests.all(check);
        StateTests.all(check);
        CountTests.all(check);
        TreeTests.all(check);
        WhatIfTests.all(check);
        ChangeTests.all(check);
        KeepingTests.all(check);
        EveryRowTests.all(check);
        RandomRunTests.all(check);
        LanguageTests.all(check, args.length > 0 ? args[0] : "src/main/java/ParkingCircle.java");
        ReadmeTests.all(check, "README.md", "src/test/java");
        edges(new Sentences(check, args.length > 1 ? args[1] : "../shared/DOC.md"));
        if (!check.finish()) {
            System.exit(1);
        }
    }

    private static void edges(Sentences sentences) {
        CircleEdges.all(sentences);
        CountEdges.all(sentences);
        TreeEdges.all(sentences);
        TextEdges.all(sentences);
        ScriptEdges.all(sentences);
        StateEdges.all(sentences);
        WhatIfEdges.all(sentences);
        ChangeEdges.all(sentences);
        KeepingEdges.all(sentences);
        sentences.finish();
    }
}

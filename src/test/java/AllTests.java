/** Runs every test of the project; ends with exit code 1 if one fails. Its argument is the path of the program. */
public final class AllTests {
    private AllTests() {
    }

    public static void main(String[] args) {
        Check check = new Check();
        TextTests.all(check);
        ScriptTests.all(check);
        StateTests.all(check);
        CountTests.all(check);
        TreeTests.all(check);
        WhatIfTests.all(check);
        ChangeTests.all(check);
        KeepingTests.all(check);
        EveryRowTests.all(check);
        RandomRunTests.all(check);
        LanguageTests.all(check, args.length > 0 ? args[0] : "src/main/java/ParkingCircle.java");
        if (!check.finish()) {
            System.exit(1);
        }
    }
}

/** Tests of single sentences of the document, each on objects of its own. */
final class Sentences {
    /** What is done with a new object. */
    interface Test {
        void with(Run x);
    }

    private String sentence = "";
    private boolean isBroken = false;
    private int tested = 0;
    private int failed = 0;

    /** Tests a sentence, which is told with the number of its promise or the name of its section. */
    void says(String told, Test test) {
        sentence = told;
        isBroken = false;
        test.with(new Run(this));
        tested++;
        if (isBroken) {
            failed++;
        }
    }

    /** Tests that the refused calls leave nothing behind in an object that is made so, nor in its history. */
    void changesNothing(String told, Test made, Test refused) {
        says(told, x -> {
            made.with(x);
            refused.with(x);
            Run twin = x.another();
            made.with(twin);
            x.same(twin);
            Run undone = x.another();
            made.with(undone);
            refused.with(undone);
            Run undoneTwin = x.another();
            made.with(undoneTwin);
            undone.undoAll().same(undoneTwin.undoAll());
        });
    }

    /** Tests that one successful call records the state before it, which undo() brings back. */
    void isAction(String told, Test made, Test act) {
        says(told, x -> {
            made.with(x);
            int states = x.ask("count", 8);
            act.with(x);
            x.due(states + 1, "count", 8);
            x.due(states, "undo");
            Run twin = x.another();
            made.with(twin);
            x.same(twin);
        });
    }

    void broken(String how) {
        if (!isBroken) {
            System.out.println("BROKEN: " + sentence);
        }
        isBroken = true;
        System.out.println("    " + how);
    }

    /** Ends the test: with exit code 1 if a sentence is broken. */
    void end() {
        System.out.println(tested - failed + " of " + tested + " sentences hold");
        if (failed != 0) {
            System.exit(1);
        }
    }
}

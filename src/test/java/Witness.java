import java.util.ArrayList;
import java.util.List;

/** All that later calls show of an object: its sheet, its acts one by one, its images, its tape, its fault. */
final class Witness {
    private static final int ACTS_MOST = 3;
    private static final List<String> QUESTIONS = questions();

    private Witness() {
    }

    static void same(Run touched, Run untouched) {
        for (String question : QUESTIONS) {
            touched.due(question, untouched.ask(question));
        }
    }

    private static List<String> questions() {
        List<String> all = new ArrayList<>();
        askSheet(all);
        askShip(all);
        all.add("course()");
        all.add("count(6)");
        for (int i = 0; i < ACTS_MOST; i++) {
            all.add("undo()");
            askSheet(all);
        }
        all.add("undo()");
        for (int k = 0; k < 2; k++) {
            all.add("restore(" + k + ")");
            askSheet(all);
            askShip(all);
        }
        return all;
    }

    private static void askSheet(List<String> all) {
        askRow(all, "count(*)", 7);
        all.add("fault()");
        for (int i = 0; i < 3; i++) {
            askRow(all, "thing(" + i + ", *)", 5);
            askRow(all, "leg(" + i + ", *)", 4);
        }
        askRow(all, "height(*0)", 2);
        all.add("sail(0, 5)");
    }

    /** Where she lies, the harbour and the draught are told by the acts that tell them anew, each undone. */
    private static void askShip(List<String> all) {
        for (int which = 0; which < 5; which++) {
            all.add("ship(" + which + ", 0)");
            all.add("undo()");
        }
    }

    private static void askRow(List<String> all, String call, int cells) {
        for (int i = 0; i < cells; i++) {
            all.add(call.replace("*", Integer.toString(i)));
        }
    }
}

import java.util.ArrayList;
import java.util.List;
import java.util.function.Consumer;

/**
 * Shows that a call changes nothing: of two machines that are built alike one gets the call, and then
 * both must answer alike, however they are used from there on.
 */
final class Twins implements Codes {
    private interface Use {
        void of(GuestClassMachine x, List<Integer> answers);
    }

    private static final List<Use> USES = List.of(
        Twins::lookAndRun, Twins::moreCode, Twins::muchCode, Twins::moreMembers, Twins::moreTypes, Twins::anew);

    private Twins() {
    }

    static void unchanged(String what, Consumer<GuestClassMachine> build, Consumer<GuestClassMachine> call) {
        for (int i = 0; i < USES.size(); i++) {
            List<Integer> after = answers(USES.get(i), build, call);
            List<Integer> due = answers(USES.get(i), build, x -> { });
            Checks.due(what + ": calls in use " + i, after.size(), due.size());
            for (int k = 0; k < due.size(); k++) {
                Checks.due(what + ": use " + i + ", call " + k, after.get(k), due.get(k));
            }
        }
    }

    private static List<Integer> answers(Use use, Consumer<GuestClassMachine> build,
            Consumer<GuestClassMachine> call) {
        GuestClassMachine x = new GuestClassMachine();
        build.accept(x);
        call.accept(x);
        List<Integer> answers = new ArrayList<>();
        use.of(x, answers);
        return answers;
    }

    private static int asInt(boolean answer) {
        return answer ? 1 : 0;
    }

    private static void look(GuestClassMachine x, List<Integer> answers) {
        answers.add(x.result());
        answers.add(x.place());
        answers.add(asInt(x.alike()));
        answers.add(x.reachable());
        for (int g = 0; g < 2; g++) {
            answers.add(x.held(g));
            for (int name = 0; name < 16; name++) {
                answers.add(x.peek(g, name));
            }
        }
    }

    private static void linkAndRun(GuestClassMachine x, List<Integer> answers) {
        answers.add(x.link());
        answers.add(x.place());
        for (int type = 0; type < 5; type++) {
            for (int name = 0; name < 16; name++) {
                answers.add(x.invoke(type, name, 3));
                answers.add(x.result());
            }
        }
    }

    private static void lookAndRun(GuestClassMachine x, List<Integer> answers) {
        look(x, answers);
        linkAndRun(x, answers);
        look(x, answers);
        for (int i = 0; i < 11; i++) {
            answers.add(asInt(x.follow(0, 8)));
            answers.add(x.peek(0, 0));
            answers.add(asInt(x.follow(1, 9)));
            answers.add(x.held(1));
        }
        answers.add(asInt(x.clear(0)));
        answers.add(x.reachable());
    }

    private static void moreCode(GuestClassMachine x, List<Integer> answers) {
        int[] code = {PUSH, 77, RETURN};
        for (int b : code) {
            answers.add(asInt(x.code(b)));
        }
        linkAndRun(x, answers);
        look(x, answers);
    }

    private static void muchCode(GuestClassMachine x, List<Integer> answers) {
        for (int i = 0; i < 33; i++) {
            answers.add(asInt(x.code(RETURN)));
        }
        linkAndRun(x, answers);
    }

    private static void moreMembers(GuestClassMachine x, List<Integer> answers) {
        for (int name = 0; name < 16; name++) {
            answers.add(asInt(x.field(name)));
        }
        for (int name = 15; name >= 0; name--) {
            answers.add(asInt(x.method(name)));
            answers.add(asInt(x.code(name < 8 ? PUSH : GLOAD)));
            answers.add(asInt(x.code(1)));
            answers.add(asInt(x.code(RETURN)));
        }
        linkAndRun(x, answers);
        look(x, answers);
    }

    private static void moreTypes(GuestClassMachine x, List<Integer> answers) {
        for (int above = -1; above < 6; above++) {
            answers.add(x.type(above));
            answers.add(asInt(x.field(above + 8)));
            answers.add(asInt(x.method(above + 1)));
        }
        answers.add(asInt(x.code(PUSH)));
        linkAndRun(x, answers);
    }

    private static void anew(GuestClassMachine x, List<Integer> answers) {
        x.reset();
        look(x, answers);
        answers.add(x.link());
        answers.add(x.type(-1));
        moreMembers(x, answers);
    }
}

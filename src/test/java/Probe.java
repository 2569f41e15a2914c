import java.util.ArrayList;
import java.util.List;

/** Asks an object all that can be seen of its first and last classes and methods. */
final class Probe {
    static final int MOST_CALLS = 220;

    private static final int NONE = CodeVerifier.NONE;
    private static final int[] KINDS = {0, 1, 2, 31};
    private static final int[] METHODS = {0, 1, 2, 63};
    private static final int[] INSTRUCTIONS = {0, 1, 199};
    private static final int[] SLOTS = {0, 1, 15};
    private static final int FREE_SLOT = 14;

    private final CodeVerifier v;
    private final List<Call> calls = new ArrayList<>();
    private final List<Integer> answers = new ArrayList<>();

    private Probe(CodeVerifier v) {
        this.v = v;
        askFound();
        askWhatMayBeTold();
        askCode();
        askFound();
        ask("kind", NONE);
        if (calls.size() > MOST_CALLS) {
            throw new IllegalStateException("a probe of " + calls.size() + " calls");
        }
    }

    static void findsAlike(String when, CodeVerifier one, CodeVerifier other) {
        Probe got = new Probe(one);
        Probe want = new Probe(other);
        for (int k = 0; k < got.calls.size(); k++) {
            Due.is(when + ", " + got.calls.get(k), got.answers.get(k), want.answers.get(k));
        }
    }

    private int ask(String name, int... with) {
        Call call = new Call(name, with);
        int answer = call.on(v);
        calls.add(call);
        answers.add(answer);
        return answer;
    }

    private void askFound() {
        ask("looked");
        for (int m : METHODS) {
            for (int i : INSTRUCTIONS) {
                ask("stands", m, i, 0, 0);
                for (int k = 0; k < 3; k++) {
                    ask("stands", m, i, 1, k);
                    ask("stands", m, i, 2, k);
                }
            }
        }
    }

    /** Parameters before slots and instructions, which end them; fields before methods, which end them. */
    private void askWhatMayBeTold() {
        for (int m : METHODS) {
            ask("parameter", m, 0);
        }
        for (int c : KINDS) {
            ask("field", c, 0);
        }
        int last = ask("method", NONE, NONE, 1, 1);
        int free = last >= 0 ? last : METHODS[METHODS.length - 1];
        for (int c : KINDS) {
            for (int s : SLOTS) {
                ask("op", free, 36, c, s);
            }
        }
        for (int m : METHODS) {
            ask("slot", m, FREE_SLOT);
        }
    }

    private void askCode() {
        for (int m : METHODS) {
            ask("op", m, 37, 0, 0);
            ask("handler", m, 198, 199, 0, 0);
            ask("verify", m);
            ask("looked");
        }
    }
}

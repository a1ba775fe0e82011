/**
 * One sentence of the document at its edges. Each case is asked of a new object, after the same calls;
 * with() gives the same sentence after more of them.
 */
final class Edge {
    /** Calls whose answers aren't looked at. */
    interface Calls {
        void on(QuickCount x);
    }

    /** A call, or several of which the last one's answer counts: a number or a boolean. */
    interface Ask {
        Object of(QuickCount x);
    }

    private final Check check;
    private final String sentence;
    private final Calls scene;

    Edge(Check check, String sentence, Calls scene) {
        this.check = check;
        this.sentence = sentence;
        this.scene = scene;
    }

    static long number(Object answer) {
        return answer instanceof Boolean is ? (is ? 1 : 0) : ((Number) answer).longValue();
    }

    Edge with(Calls more) {
        return new Edge(check, sentence, x -> {
            scene.on(x);
            more.on(x);
        });
    }

    private QuickCount made() {
        QuickCount x = new QuickCount();
        scene.on(x);
        return x;
    }

    private String of(String what) {
        return sentence + ": " + what;
    }

    /** The call is done: true, STATUS 0. */
    Edge done(String what, Ask call) {
        return taken(what, call, 1);
    }

    /** The call answers so, with STATUS 0. */
    Edge taken(String what, Ask call, long answer) {
        QuickCount x = made();
        check.due(of(what), number(call.of(x)), answer);
        check.due(of(what) + ", status", x.status(), 0);
        return this;
    }

    /** The call answers so, with STATUS 0, and tells a FRACTION. */
    Edge tells(String what, Ask call, long answer, long top, long bottom) {
        QuickCount x = made();
        check.due(of(what), number(call.of(x)), answer);
        check.due(of(what) + ", status", x.status(), 0);
        check.fraction(x, of(what), top, bottom);
        return this;
    }

    /** What a call without a STATUS of its own answers. */
    Edge asks(String what, Ask call, long answer) {
        check.due(of(what), number(call.of(made())), answer);
        return this;
    }

    /** The call gives NONE, or false, with this STATUS, and changes nothing else. */
    Edge refused(String what, Ask call, int status) {
        QuickCount x = made();
        Object answer = call.of(x);
        check.due(of(what), number(answer), answer instanceof Boolean ? 0 : -1);
        check.due(of(what) + ", status", x.status(), status);
        String change = Twins.change(scene, call);
        check.due(of(what) + ", changes " + change, change == null, true);
        return this;
    }
}

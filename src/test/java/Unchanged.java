import java.util.function.Supplier;

/**
 * Checks the answer of a call that must not change anything, because it is refused or only asks:
 * the object has to go on just as its twin does, which has not been asked.
 */
final class Unchanged {
    /** A call on an object. */
    interface Call {
        Object on(FlowNetwork x);
    }

    private final Check check;
    private final Supplier<FlowNetwork> maker;

    Unchanged(Check check, Supplier<FlowNetwork> maker) {
        this.check = check;
        this.maker = maker;
    }

    void due(String name, Object want, Call call) {
        FlowNetwork asked = maker.get();
        FlowNetwork twin = maker.get();
        check.due(name, want, () -> call.on(asked));
        check.same(name + " and then", story(twin), story(asked));
    }

    /** What an object answers from now on, its stored levels and next numbers among it. */
    private static String story(FlowNetwork x) {
        StringBuilder text = new StringBuilder();
        tell(text, x::nodeCount);
        tell(text, x::arcCount);
        for (int arc = 0; arc < x.arcCount(); arc++) {
            int number = arc;
            tell(text, () -> x.capacity(number));
        }
        tellCuts(text, x);
        tellNumbers(text, x);
        while (!Check.answer(x::pop).equals(Check.STATE)) {
            tellNumbers(text.append("| pop "), x);
        }
        text.append("| more ");
        tell(text, x::addNode);
        tell(text, () -> x.addArc(1, 0, 7));
        tell(text, () -> x.addArc(0, 1, 9));
        tell(text, () -> x.setEnds(0, 1));
        tell(text, x::push);
        tellNumbers(text, x);
        return text.toString();
    }

    private static void tell(StringBuilder text, Check.Call call) {
        text.append(Check.answer(call)).append(' ');
    }

    private static void tellCuts(StringBuilder text, FlowNetwork x) {
        String answer = "";
        for (int i = 0; i < 301 && !answer.equals(Check.INDEX); i++) {
            int index = i;
            answer = Check.answer(() -> x.cut(index));
            text.append(answer).append(' ');
        }
    }

    private static void tellNumbers(StringBuilder text, FlowNetwork x) {
        tell(text, x::maximum);
        tell(text, x::utilization);
        tell(text, x::smallestCut);
        tell(text, x::greatestCut);
        tell(text, x::digest);
    }
}

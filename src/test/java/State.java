import java.util.function.IntUnaryOperator;

/** All that an object tells without being changed by it, in some 130 calls. */
final class State {
    private State() {
    }

    static String of(WaveRows x) {
        StringBuilder all = new StringBuilder();
        tell(all, "count", 0, 8, x::count);
        all.append("fault ").append(x.fault()).append("; ");
        for (int h = 0; h < x.count(3); h++) {
            int it = h;
            tell(all, "hearer " + h, 0, 1, what -> x.hearer(it, what));
        }
        for (int s = 0; s < x.count(4); s++) {
            int it = s;
            tell(all, "sender " + s, 0, 3, what -> x.sender(it, what));
        }
        for (int b = 1; b < x.count(6); b++) {
            tell(all, "through " + b, b, b, what -> x.through(what - 1, what));
        }
        tell(all, "wave", 1, 1, d -> x.wave(d, 1));
        tell(all, "reading", 0, 9, x::reading);
        all.append("roots ").append(x.roots()).append("; ");
        tell(all, "ruleAt", 1, 10, x::ruleAt);
        tell(all, "strength", 0, 9, x::strength);
        tell(all, "track", 0, 2, x::track);
        tell(all, "made", -1, 2, x::made);
        tell(all, "madeBy", 0, 2, x::madeBy);
        tell(all, "liar", -1, 1, x::liar);
        tell(all, "number", 0, 9, x::number);
        tell(all, "comes", 0, 1, x::comes);
        tell(all, "fixAt", 0, 7, x::fixAt);
        return all.toString();
    }

    private static void tell(StringBuilder all, String call, int from, int to, IntUnaryOperator answer) {
        all.append(call);
        for (int k = from; k <= to; k++) {
            all.append(' ').append(answer.applyAsInt(k));
        }
        all.append("; ");
    }
}

import java.util.ArrayList;
import java.util.List;
import java.util.function.Supplier;
import java.util.function.ToLongFunction;

/** What all tests of edges share: the values of refusals, and ways to look at answers. */
abstract class Edges {
    static final int NONE = -1, BAD = -2, NOT = -3, FULL = -4;
    static final int NULL = -11, INDEX = -12, CAST = -13, STORE = -14, SIZE = -15;
    static final int ANY_BAD = -10002;
    static final long LONG_BAD = -9223372036854775806L;
    static final int LEAST = Integer.MIN_VALUE, MOST = Integer.MAX_VALUE;
    static final String SEVEN = "000;000;000;000;000;000;000";

    final List<String> wrong = new ArrayList<>();
    int looks = 0;

    final void due(String call, long got, long want) {
        looks++;
        if (got != want) {
            wrong.add(call + " answered " + got + ", due is " + want);
        }
    }

    static LastForemost with(String text) {
        LastForemost x = new LastForemost();
        type(x, text);
        return x;
    }

    static void type(LastForemost x, String text) {
        for (int i = 0; i < text.length(); i++) {
            x.type(text.charAt(i));
        }
    }

    /** Refused in both states alike. */
    final void refused(String call, ToLongFunction<LastForemost> act, long answer) {
        refused(States::rich, call, act, answer);
        refused(States::full, call, act, answer);
    }

    final void refused(Supplier<LastForemost> state, String call,
            ToLongFunction<LastForemost> act, long answer) {
        boolean finding = answer <= NULL && answer >= SIZE;
        refused(state, call, act, answer, finding ? (int) (-10 - answer) : state.get().count(8));
    }

    /** Refused so, with this count() 8 behind it, and all else as in a like object. */
    final void refused(Supplier<LastForemost> state, String call,
            ToLongFunction<LastForemost> act, long answer, int finding) {
        LastForemost x = state.get();
        due(call, act.applyAsLong(x), answer);
        due("count(8) behind " + call, x.count(8), finding);
        List<String> asIs = States.all(state.get());
        List<String> after = States.all(x);
        looks++;
        for (int i = 0; i < asIs.size(); i++) {
            if (!asIs.get(i).equals(after.get(i))) {
                wrong.add(call + " changed something: " + asIs.get(i) + " became " + after.get(i));
                return;
            }
        }
    }
}

import java.math.BigInteger;
import java.util.ArrayList;
import java.util.List;

/** Edges of promises 19 to 28: who came when, chances. */
final class ChanceEdges extends Edges {
    private static final String FACTS_SAY = "FACTS, 8 at most: one (0 to 6) sat on a SEAT (0 to "
        + "6), or one sat nearer to the front than another one.";
    private static final String ORDER_SAYS = "Refusals, the first that fits, in the order told at "
        + "each act: BAD -2 (a number not as told, no such thing), NULL, NOT -3 (as told), FULL "
        + "-4, other FINDINGS.";
    private static final String LONG_SAYS =
        "Where the answer is a long, a refusal -x is the least long and x more";
    private static final String CAME_SAYS = "CAME: in how many orders all PEOPLE can have come "
        + "(LAW as it is, all sitting), so that all FACTS come out so (of one who is not there it "
        + "never does): how many; as which (0 the first) one can have come, as bits.";
    private static final String SURE_SAYS = "SURE: pairs of which by all these orders it is sure "
        + "who came first (0, if there are none).";
    private static final String FAIR_SAYS = "FAIR: over all orders alike (all sitting, nobody "
        + "WET): the mean of what one HAS: a FRACTION (perhaps below 0).";
    private static final String FRACTIONS_SAY =
        "FRACTIONS are told in lowest terms, above and below (0 by 1).";
    private static final String LOTS_SAY = "LOTS of m: SEED becomes 1103515245 SEED and 12345, as "
        + "ints that wrap; its upper 16 bits as a number from 0 on, modulo m.";
    private static final String SUNDAYS_SAY =
        "SUNDAYS, 60 at most: one (0 to 6) was late (1), or not (0)";
    private static final String LATE_SAYS = "the chance that one is late next time: one more than "
        + "how often one was, by two more than how often it was told: a FRACTION.";
    private static final String ALL_LATE_SAYS = "ALL LATE: the chance that all PEOPLE are, each "
        + "by oneself (1 of nobody): a FRACTION.";

    private void fraction(String what, long above, long below, long wantAbove, long wantBelow) {
        due(what + ", above", above, wantAbove);
        due(what + ", below", below, wantBelow);
    }

    // ---- 19

    @Sentence(promise = 19, says = FACTS_SAY, edge = "too small, too large: the one, the seat")
    void satBeside() {
        for (int v : new int[] {-1, LEAST, 7, MOST}) {
            refused("sat(" + v + ", 0)", x -> x.sat(v, 0), BAD);
            refused("sat(0, " + v + ")", x -> x.sat(0, v), BAD);
        }
    }

    @Sentence(promise = 19, says = FACTS_SAY, edge = "the least and the greatest, there or not")
    void satLeastAndGreatest() {
        LastForemost x = new LastForemost();
        due("sat(0, 0)", x.sat(0, 0), 1);
        due("sat(6, 6)", x.sat(6, 6), 2);
        due("sat(6, 6), told again", x.sat(6, 6), 3);
        due("sat(6, 0)", x.sat(6, 0), 4);
        due("count(4)", x.count(4), 4);
    }

    @Sentence(promise = 19, says = "A FACT: one sat on a SEAT: how many. BAD; FULL.",
        edge = "full")
    void satWhenFull() {
        LastForemost x = with("000;000");
        for (int i = 1; i <= 8; i++) {
            due("sat(0, 1) as the " + i + "th", x.sat(0, 1), i);
        }
        due("sat(0, 0) as the 9th", x.sat(0, 0), FULL);
        due("count(4)", x.count(4), 8);
        due("came(NONE), the 9th is not told", x.came(NONE), 1);
        refused(States::full, "sat(0, 0)", y -> y.sat(0, 0), FULL);
        refused(States::full, "sat(6, 6)", y -> y.sat(6, 6), FULL);
    }

    @Sentence(promise = 19, says = ORDER_SAYS, edge = "BAD ahead of FULL")
    void badSatWhenFull() {
        refused(States::full, "sat(7, 0)", x -> x.sat(7, 0), BAD);
        refused(States::full, "sat(0, 7)", x -> x.sat(0, 7), BAD);
    }

    // ---- 20

    @Sentence(promise = 20, says = "A FACT: one sat nearer to the front than another one: how "
        + "many. BAD: also than oneself; FULL.", edge = "too small, too large: the two")
    void frontBeside() {
        for (int p : new int[] {-1, LEAST, 7, MOST}) {
            refused("front(" + p + ", 0)", x -> x.front(p, 0), BAD);
            refused("front(0, " + p + ")", x -> x.front(0, p), BAD);
        }
    }

    @Sentence(promise = 20, says = "A FACT: one sat nearer to the front than another one: how "
        + "many. BAD: also than oneself; FULL.", edge = "refused: than oneself")
    void frontOfOneself() {
        for (int p = 0; p < 7; p++) {
            int one = p;
            refused("front(" + p + ", " + p + ")", x -> x.front(one, one), BAD);
        }
    }

    @Sentence(promise = 20, says = "A FACT: one sat nearer to the front than another one: how "
        + "many. BAD: also than oneself; FULL.", edge = "full, of both kinds together")
    void frontWhenFull() {
        LastForemost x = with("000;000");
        for (int i = 1; i <= 8; i++) {
            due("the " + i + "th", i % 2 == 0 ? x.sat(1, 0) : x.front(0, 1), i);
        }
        due("front(1, 0) as the 9th", x.front(1, 0), FULL);
        due("came(NONE), the 9th is not told", x.came(NONE), 1);
        refused(States::full, "front(0, 6)", y -> y.front(0, 6), FULL);
    }

    @Sentence(promise = 20, says = ORDER_SAYS, edge = "BAD ahead of FULL")
    void badFrontWhenFull() {
        refused(States::full, "front(3, 3)", x -> x.front(3, 3), BAD);
        refused(States::full, "front(7, 0)", x -> x.front(7, 0), BAD);
        refused(States::full, "front(0, -1)", x -> x.front(0, -1), BAD);
    }

    // ---- 21

    @Sentence(promise = 21, says = "All FACTS are forgotten: how many.", edge = "empty")
    void forgetNothing() {
        LastForemost x = new LastForemost();
        due("forget()", x.forget(), 0);
        x.sat(0, 0);
        due("forget()", x.forget(), 1);
        due("forget() again", x.forget(), 0);
    }

    @Sentence(promise = 21, says = "All FACTS are forgotten: how many.", edge = "full")
    void forgetAll() {
        LastForemost x = with("000;000");
        for (int i = 0; i < 4; i++) {
            x.sat(0, 0);
            x.front(0, 1);
        }
        due("came(NONE)", x.came(NONE), 0);
        due("forget()", x.forget(), 8);
        due("count(4)", x.count(4), 0);
        due("came(NONE), none is left", x.came(NONE), 2);
        for (int i = 1; i <= 8; i++) {
            due("front(1, 0), there is room", x.front(1, 0), i);
        }
        due("came(NONE)", x.came(NONE), 1);
    }

    // ---- 22

    @Sentence(promise = 22, says = "CAME: how many orders (person = NONE), as which, as bits. BAD.",
        edge = "too small, too large: the one")
    void cameBeside() {
        for (int p : new int[] {-2, LEAST, 6, 7, MOST}) {
            refused("came(" + p + ")", x -> x.came(p), BAD);
        }
        due("came(0) of nobody", new LastForemost().came(0), BAD);
        due("came(1) of one", with("000").came(1), BAD);
    }

    @Sentence(promise = 22, says = CAME_SAYS, edge = "empty, and all orders up to seven")
    void cameInAllOrders() {
        LastForemost x = new LastForemost();
        int orders = 1;
        due("came(NONE) of nobody", x.came(NONE), 1);
        for (int n = 1; n <= 7; n++) {
            type(x, n == 1 ? "000" : ";000");
            orders *= n;
            due("came(NONE) of " + n, x.came(NONE), orders);
            for (int p = 0; p < n; p++) {
                due("came(" + p + ") of " + n, x.came(p), (1 << n) - 1);
            }
        }
    }

    @Sentence(promise = 22, says = CAME_SAYS, edge = "full: one order only, of both laws")
    void cameInOneOrder() {
        LastForemost x = with(SEVEN);
        for (int p = 0; p < 7; p++) {
            x.sat(p, p);
        }
        x.front(6, 0);
        for (int law = 0; law <= 1; law++) {
            x.set(1, law);
            due("came(NONE), law " + law, x.came(NONE), 1);
            for (int p = 0; p < 7; p++) {
                due("came(" + p + "), law " + law, x.came(p), 1 << (law == 0 ? p : 6 - p));
            }
        }
    }

    @Sentence(promise = 22, says = CAME_SAYS, edge = "one who is not there")
    void cameWithOneNotThere() {
        for (int law = 0; law <= 1; law++) {
            for (int n = 0; n <= 6; n++) {
                cameWithoutNumber(n, law);
            }
        }
    }

    private void cameWithoutNumber(int n, int law) {
        LastForemost x = with(n == 0 ? "" : SEVEN.substring(0, 4 * n - 1));
        x.set(1, law);
        x.sat(n, 0);
        due("came(NONE), " + n + " sat, law " + law, x.came(NONE), 0);
        if (n > 0) {
            x.forget();
            x.front(n, 0);
            due("came(NONE), " + n + " in front, law " + law, x.came(NONE), 0);
            due("came(0), " + n + " in front, law " + law, x.came(0), 0);
            x.forget();
            x.front(0, n);
            due("came(NONE), in front of " + n + ", law " + law, x.came(NONE), 0);
        }
        type(x, n == 0 ? "000" : ";000");
        due("came(NONE), now " + n + " is there, law " + law, x.came(NONE) > 0 ? 1 : 0, 1);
    }

    @Sentence(promise = 22, says = CAME_SAYS, edge = "a place that would leave none for another")
    void cameWhereAnotherMustBe() {
        LastForemost x = with("000;000;000");
        x.sat(2, 0);
        due("came(NONE)", x.came(NONE), 2);
        due("came(0), not as the first", x.came(0), 6);
        due("came(1), not as the first", x.came(1), 6);
        due("came(2), as the first", x.came(2), 1);
        x.set(1, 1);
        due("came(0) by law 1, not as the last", x.came(0), 3);
        due("came(2) by law 1, as the last", x.came(2), 4);
    }

    @Sentence(promise = 22, says = CAME_SAYS, edge = "a seat too large for so many")
    void cameOnSeatBeyond() {
        for (int law = 0; law <= 1; law++) {
            for (int n = 1; n <= 6; n++) {
                LastForemost x = with(SEVEN.substring(0, 4 * n - 1));
                x.set(1, law);
                x.sat(0, n - 1);
                due("came(NONE), the last seat of " + n, x.came(NONE) > 0 ? 1 : 0, 1);
                due("came(0), the last seat of " + n, x.came(0), law == 0 ? 1 << (n - 1) : 1);
                x.forget();
                x.sat(0, n);
                due("came(NONE), no such seat of " + n, x.came(NONE), 0);
                due("came(0), no such seat of " + n, x.came(0), 0);
            }
        }
    }

    @Sentence(promise = 22, says = CAME_SAYS, edge = "facts against one another")
    void cameAgainstItself() {
        LastForemost x = with("000;000;000");
        x.front(0, 1);
        x.front(1, 2);
        due("came(NONE)", x.came(NONE), 1);
        x.front(2, 0);
        due("came(NONE), round about", x.came(NONE), 0);
        for (int p = 0; p < 3; p++) {
            due("came(" + p + "), round about", x.came(p), 0);
        }
        x.forget();
        x.sat(0, 1);
        x.sat(1, 1);
        due("came(NONE), two on one seat", x.came(NONE), 0);
        x.forget();
        x.sat(0, 1);
        x.sat(0, 2);
        due("came(NONE), one on two seats", x.came(NONE), 0);
    }

    @Sentence(promise = 22, says = CAME_SAYS, edge = "all outside by the bell, all sitting here")
    void cameWithoutTheBell() {
        LastForemost x = with("000;590;300");
        x.set(0, 0);
        due("came(NONE)", x.came(NONE), 6);
        x.sat(1, 0);
        due("came(NONE), 1 at the back", x.came(NONE), 2);
        due("came(1), 1 at the back", x.came(1), 1);
    }

    // ---- 23

    @Sentence(promise = 23, says = SURE_SAYS, edge = "empty: no orders, nobody")
    void sureOfNothing() {
        due("sure() of nobody", new LastForemost().sure(), 0);
        due("sure() of one", with("000").sure(), 0);
        due("sure() of seven, no facts", with(SEVEN).sure(), 0);
        LastForemost x = with("000;000;000");
        x.front(0, 1);
        due("sure()", x.sure(), 1);
        x.front(1, 0);
        due("sure(), there is no order", x.sure(), 0);
        x.forget();
        x.front(0, 1);
        x.sat(3, 0);
        due("sure(), of one who is not there", x.sure(), 0);
    }

    @Sentence(promise = 23, says = "SURE: how many pairs.", edge = "a pair counts once")
    void sureOfOnePair() {
        for (int law = 0; law <= 1; law++) {
            LastForemost x = with("000;000");
            x.set(1, law);
            x.front(1, 0);
            due("sure(), law " + law, x.sure(), 1);
            x.front(1, 0);
            x.sat(0, 0);
            due("sure(), told thrice, law " + law, x.sure(), 1);
        }
    }

    @Sentence(promise = 23, says = SURE_SAYS, edge = "full: all pairs")
    void sureOfAll() {
        LastForemost x = with(SEVEN);
        for (int p = 0; p < 6; p++) {
            x.front(p, p + 1);
            due("sure(), " + (p + 2) + " in a chain", x.sure(), (p + 1) * (p + 2) / 2);
        }
        due("came(NONE)", x.came(NONE), 1);
        x.set(1, 1);
        due("sure() by law 1", x.sure(), 21);
    }

    // ---- 24

    @Sentence(promise = 24, says = "FAIR: above, below. BAD. (As the least long.)",
        edge = "too small, too large: the one, what")
    void fairBeside() {
        for (int p : new int[] {-1, LEAST, 6, 7, MOST}) {
            refused("fair(" + p + ", 0)", x -> x.fair(p, 0), LONG_BAD);
            refused("fair(" + p + ", 1)", x -> x.fair(p, 1), LONG_BAD);
        }
        for (int what : new int[] {-1, LEAST, 2, MOST}) {
            refused("fair(0, " + what + ")", x -> x.fair(0, what), LONG_BAD);
        }
        due("fair(0, 0) of nobody", new LastForemost().fair(0, 0), LONG_BAD);
    }

    @Sentence(promise = 24, says = LONG_SAYS, edge = "refused: the value")
    void fairRefusedAsLeastLong() {
        due("fair(0, 0) of nobody", new LastForemost().fair(0, 0) - 2, Long.MIN_VALUE);
        due("late(7, 0)", new LastForemost().late(7, 0) - 2, Long.MIN_VALUE);
        due("allLate(2)", new LastForemost().allLate(2) - 2, Long.MIN_VALUE);
    }

    @Sentence(promise = 24, says = FAIR_SAYS, edge = "below 0, the least")
    void fairBelowNought() {
        LastForemost x = with("006");
        x.set(3, 9);
        fraction("fair(0) of one", x.fair(0, 0), x.fair(0, 1), -34, 1);
        // Seats 0 and 1, the wish 6: -34 and -25.
        type(x, ";000");
        fraction("fair(0) of two", x.fair(0, 0), x.fair(0, 1), -59, 2);
        // Seats 0, 1 and 2: -34, -25 and -16, in the mean -25.
        type(x, ";000");
        fraction("fair(0) of three", x.fair(0, 0), x.fair(0, 1), -25, 1);
        // Seats 0 to 3: -82 in all, by four.
        type(x, ";000");
        fraction("fair(0) of four", x.fair(0, 0), x.fair(0, 1), -41, 2);
    }

    @Sentence(promise = 24, says = FRACTIONS_SAY, edge = "0 by 1")
    void fairOfNought() {
        // Seats 0 and 1, the wish 3: 20 less 24 and 20 less 16.
        LastForemost x = with("003;000");
        x.set(3, 8);
        fraction("fair(0)", x.fair(0, 0), x.fair(0, 1), 0, 1);
    }

    @Sentence(promise = 24, says = FAIR_SAYS, edge = "full: seven, and all love")
    void fairOfSeven() {
        LastForemost x = with(SEVEN);
        x.set(3, 0);
        x.set(2, 4);
        for (int p = 1; p < 7; p++) {
            x.love(0, p, 20);
        }
        // Four have three beside them and three have two: each other one in 3 of 7 orders.
        fraction("fair(0)", x.fair(0, 0), x.fair(0, 1), 500, 7);
        fraction("fair(1)", x.fair(1, 0), x.fair(1, 1), 200, 7);
        x.set(2, 1);
        fraction("fair(0), one to a pew", x.fair(0, 0), x.fair(0, 1), 20, 1);
        x.set(2, 2);
        // Six have one beside them: each other one in 1 of 7 orders.
        fraction("fair(0), two to a pew", x.fair(0, 0), x.fair(0, 1), 260, 7);
        x.set(2, 3);
        // Six have two beside them: each other one in 2 of 7 orders.
        fraction("fair(0), three to a pew", x.fair(0, 0), x.fair(0, 1), 380, 7);
    }

    @Sentence(promise = 24, says = FAIR_SAYS, edge = "one, two: always or never in one pew")
    void fairOfOneAndTwo() {
        LastForemost x = with("000");
        x.love(0, 1, 7);
        fraction("fair(0) of one", x.fair(0, 0), x.fair(0, 1), 20, 1);
        type(x, ";000");
        fraction("fair(0) of two", x.fair(0, 0), x.fair(0, 1), 26, 1);
        x.set(2, 1);
        fraction("fair(0) of two, one to a pew", x.fair(0, 0), x.fair(0, 1), 19, 1);
        x.set(3, 1);
        fraction("fair(0) of two, little care", x.fair(0, 0), x.fair(0, 1), 39, 2);
    }

    @Sentence(promise = 24, says = FAIR_SAYS, edge = "all outside by the bell, wet as told")
    void fairAllSittingNobodyWet() {
        LastForemost x = with("000;590");
        x.set(0, 0);
        x.waits(0, 59);
        x.set(4, 9);
        for (int minute = 0; minute < 60; minute++) {
            x.rain(minute, 1);
        }
        fraction("fair(0)", x.fair(0, 0), x.fair(0, 1), 19, 1);
        fraction("fair(1)", x.fair(1, 0), x.fair(1, 1), 19, 1);
        x.set(1, 1);
        fraction("fair(0) by law 1", x.fair(0, 0), x.fair(0, 1), 19, 1);
    }

    // ---- 25

    @Sentence(promise = 25, says = "LOT: the SEAT of one. BAD.",
        edge = "too small, too large: the one")
    void lotBeside() {
        for (int p : new int[] {-1, LEAST, 6, 7, MOST}) {
            refused("lot(7, " + p + ")", x -> x.lot(7, p), BAD);
        }
        due("lot(0, 0) of nobody", new LastForemost().lot(0, 0), BAD);
        due("lot(0, 1) of one", with("000").lot(0, 1), BAD);
    }

    /** The seats by numbers without end, of which the lowest 32 bits are taken. */
    private static List<Integer> drawn(int seed, int people) {
        BigInteger wrap = BigInteger.ONE.shiftLeft(32);
        BigInteger state = BigInteger.valueOf(seed);
        List<Integer> left = new ArrayList<>();
        for (int seat = 0; seat < people; seat++) {
            left.add(seat);
        }
        List<Integer> seats = new ArrayList<>();
        for (int p = 0; p < people; p++) {
            state = state.multiply(BigInteger.valueOf(1103515245)).add(BigInteger.valueOf(12345))
                .mod(wrap);
            int upper = state.shiftRight(16).intValueExact();
            seats.add(left.remove(upper % left.size()));
        }
        return seats;
    }

    @Sentence(promise = 25, says = LOTS_SAY, edge = "a wrap-around, seeds of both ends")
    void lotWraps() {
        int[] seeds = {0, 1, 2, 7, -1, -7, LEAST, LEAST + 1, MOST, MOST - 1, 65535, 65536, -65536,
            1103515245, 123456789};
        LastForemost x = new LastForemost();
        for (int n = 1; n <= 7; n++) {
            type(x, n == 1 ? "000" : ";000");
            for (int seed : seeds) {
                List<Integer> want = drawn(seed, n);
                for (int p = 0; p < n; p++) {
                    due("lot(" + seed + ", " + p + ") of " + n, x.lot(seed, p), want.get(p));
                }
                // So that no object is asked more than 512 times.
                x = with(SEVEN.substring(0, 4 * n - 1));
            }
        }
    }

    @Sentence(promise = 25, says = LOTS_SAY, edge = "the upper bits of a number below 0")
    void lotOfNumberBelowNought() {
        // -1 becomes -1103502900; its upper bits are 48697, of seven left 5.
        due("lot(-1, 0)", with(SEVEN).lot(-1, 0), 5);
        // 0 becomes 12345: upper bits 0. That becomes -740551042: 54236, of six left 2.
        due("lot(0, 0)", with(SEVEN).lot(0, 0), 0);
        due("lot(0, 1)", with(SEVEN).lot(0, 1), 3);
    }

    @Sentence(promise = 25, says = "LOT by a SEED: PEOPLE 0 on draw a SEAT out of those left (from "
        + "the least on, 0 on) by a LOT of as many as are left; which one has.",
        edge = "the last one has what is left")
    void lotOfTheLastOne() {
        for (int seed = -20; seed <= 20; seed++) {
            LastForemost x = with(SEVEN);
            int seats = 0;
            for (int p = 0; p < 7; p++) {
                seats |= 1 << x.lot(seed, p);
            }
            due("all seats by seed " + seed, seats, 127);
            due("lot(" + seed + ", 0) of one", with("000").lot(seed, 0), 0);
        }
    }

    // ---- 26

    @Sentence(promise = 26, says = SUNDAYS_SAY, edge = "too small, too large: the one, how it was")
    void sundayBeside() {
        for (int p : new int[] {-1, LEAST, 7, MOST}) {
            refused("sunday(" + p + ", 1)", x -> x.sunday(p, 1), BAD);
        }
        for (int late : new int[] {-1, LEAST, 2, MOST}) {
            refused("sunday(0, " + late + ")", x -> x.sunday(0, late), BAD);
        }
    }

    @Sentence(promise = 26, says = SUNDAYS_SAY, edge = "the least and the greatest, there or not")
    void sundayOfEach() {
        LastForemost x = new LastForemost();
        for (int p = 0; p < 7; p++) {
            due("sunday(" + p + ", 0)", x.sunday(p, 0), 1);
            due("sunday(" + p + ", 1)", x.sunday(p, 1), 2);
        }
        due("count(5)", x.count(5), 14);
    }

    @Sentence(promise = 26, says = "A SUNDAY more: how many of this one. BAD; FULL: 60 in all.",
        edge = "full, of one")
    void sundaysOfOne() {
        LastForemost x = new LastForemost();
        for (int i = 1; i <= 60; i++) {
            due("sunday(6, 1) as the " + i + "th", x.sunday(6, 1), i);
        }
        due("sunday(6, 1) as the 61st", x.sunday(6, 1), FULL);
        due("sunday(0, 0) as the 61st", x.sunday(0, 0), FULL);
        due("count(5)", x.count(5), 60);
    }

    @Sentence(promise = 26, says = "A SUNDAY more: how many of this one. BAD; FULL: 60 in all.",
        edge = "full, of all together")
    void sundaysOfAll() {
        LastForemost x = new LastForemost();
        for (int i = 0; i < 60; i++) {
            due("sunday(" + i % 7 + ", 0)", x.sunday(i % 7, 0), i / 7 + 1);
        }
        for (int p = 0; p < 7; p++) {
            due("sunday(" + p + ", 0) as the 61st", x.sunday(p, 0), FULL);
        }
        for (int late = 0; late <= 1; late++) {
            int was = late;
            refused(States::full, "sunday(0, " + late + ")", y -> y.sunday(0, was), FULL);
        }
    }

    @Sentence(promise = 26, says = ORDER_SAYS, edge = "BAD ahead of FULL")
    void badSundayWhenFull() {
        refused(States::full, "sunday(7, 0)", x -> x.sunday(7, 0), BAD);
        refused(States::full, "sunday(0, 2)", x -> x.sunday(0, 2), BAD);
    }

    // ---- 27

    @Sentence(promise = 27, says = "The chance that one (0 to 6) is late: above, below. BAD. (As "
        + "the least long.)", edge = "too small, too large: the one, what")
    void lateBeside() {
        for (int p : new int[] {-1, LEAST, 7, MOST}) {
            refused("late(" + p + ", 0)", x -> x.late(p, 0), LONG_BAD);
            refused("late(" + p + ", 1)", x -> x.late(p, 1), LONG_BAD);
        }
        for (int what : new int[] {-1, LEAST, 2, MOST}) {
            refused("late(0, " + what + ")", x -> x.late(0, what), LONG_BAD);
        }
    }

    @Sentence(promise = 27, says = LATE_SAYS, edge = "empty, there or not")
    void lateOfNoSundays() {
        LastForemost x = new LastForemost();
        for (int p = 0; p < 7; p++) {
            fraction("late(" + p + ")", x.late(p, 0), x.late(p, 1), 1, 2);
        }
    }

    @Sentence(promise = 27, says = LATE_SAYS, edge = "full: always, never")
    void lateOfSixtySundays() {
        for (int late = 0; late <= 1; late++) {
            LastForemost x = new LastForemost();
            for (int i = 0; i < 60; i++) {
                x.sunday(3, late);
            }
            fraction("late(3)", x.late(3, 0), x.late(3, 1), late == 1 ? 61 : 1, 62);
            fraction("late(2)", x.late(2, 0), x.late(2, 1), 1, 2);
        }
    }

    @Sentence(promise = 27, says = FRACTIONS_SAY, edge = "lowest terms")
    void lateInLowestTerms() {
        LastForemost x = new LastForemost();
        long[][] want = {{1, 3}, {1, 2}, {2, 5}, {1, 2}, {3, 7}, {1, 2}, {4, 9}, {1, 2}};
        for (int i = 0; i < want.length; i++) {
            x.sunday(0, i % 2);
            fraction("late(0) of " + (i + 1), x.late(0, 0), x.late(0, 1), want[i][0], want[i][1]);
        }
    }

    // ---- 28

    @Sentence(promise = 28, says = "ALL LATE: above, below. BAD. (As the least long.)",
        edge = "too small, too large: what")
    void allLateBeside() {
        for (int what : new int[] {-1, LEAST, 2, MOST}) {
            refused("allLate(" + what + ")", x -> x.allLate(what), LONG_BAD);
        }
    }

    @Sentence(promise = 28, says = ALL_LATE_SAYS, edge = "empty: nobody")
    void allLateOfNobody() {
        LastForemost x = new LastForemost();
        x.sunday(0, 0);
        fraction("allLate()", x.allLate(0), x.allLate(1), 1, 1);
        type(x, "000;");
        fraction("allLate() with a fault", x.allLate(0), x.allLate(1), 1, 1);
        x.wipe();
        type(x, "000");
        fraction("allLate() of one", x.allLate(0), x.allLate(1), 1, 3);
    }

    @Sentence(promise = 28, says = ALL_LATE_SAYS, edge = "full: seven, all Sundays")
    void allLateOfSeven() {
        LastForemost x = with(SEVEN);
        fraction("allLate(), no Sundays", x.allLate(0), x.allLate(1), 1, 128);
        for (int i = 0; i < 60; i++) {
            x.sunday(i % 7, 1);
        }
        // Four were late 9 times and three 8 times: 10^4 9^3 by 11^4 10^3.
        fraction("allLate(), sixty Sundays", x.allLate(0), x.allLate(1), 7290, 14641);
    }

    @Sentence(promise = 28, says = ALL_LATE_SAYS, edge = "Sundays of one who is not there")
    void allLateWithoutOthers() {
        LastForemost x = with("000;000");
        for (int i = 0; i < 5; i++) {
            x.sunday(2, 0);
        }
        fraction("allLate() of two", x.allLate(0), x.allLate(1), 1, 4);
        type(x, ";000");
        fraction("allLate() of three", x.allLate(0), x.allLate(1), 1, 28);
    }
}

/** Edges of promises 11 to 18: seats, churches. */
final class SeatEdges extends Edges {
    private static final String ONE_BY_ONE = "000;010;020;030;040;050;060";
    private static final String BELL_SAYS =
        "who GOES IN at that minute or later stays OUTSIDE.";
    private static final String HAS_SAYS = "HAS: who sits has 20, less CARE (0 to 9; 2 at first) "
        + "for each SEAT that it is off the WISH (as an amount), and LOVE for each other one in "
        + "the same PEW; who is OUTSIDE has 0; of both SOAK (0 to 9; 1 at first) for each minute "
        + "WET is taken.";
    private static final String BEST_SAYS = "BEST for one, all others as they are: the minutes of "
        + "waiting (0 to 59) by which one HAS most, of like ones the fewest.";
    private static final String REST_ASKS = "REST: how many rows (person = NONE), how many STEPS "
        + "one WAITS by the first (NONE: there is none). BAD; FULL.";
    private static final String REST_ROWS = "rows by which each WAITS 0, 1, 2 or 3 times STEP (1 "
        + "to 15; 5 at first) minutes (what is told aside)";
    private static final String CHANGE_ASKS =
        "CHANGE of two: 1, 0. BAD: also one with oneself; NOT: one is OUTSIDE.";
    private static final String CHURCHES_ASKS =
        "GOES WHERE: how many ways (what = 0), the least as bits (1; NONE). BAD.";

    private void seats(LastForemost x, String when, int... want) {
        for (int p = 0; p < want.length; p++) {
            due("seat(" + p + "), " + when, x.seat(p), want[p]);
        }
    }

    private static void rainAllThrough(LastForemost x) {
        for (int minute = 0; minute < 60; minute++) {
            x.rain(minute, 1);
        }
    }

    // ---- 11

    @Sentence(promise = 11, says = "The SEAT of one; NONE: OUTSIDE. BAD.",
        edge = "too small, too large: the one")
    void seatOfOneBeside() {
        for (int p : new int[] {-1, LEAST, 6, 7, MOST}) {
            refused("seat(" + p + ")", x -> x.seat(p), BAD);
        }
        due("seat(0) of nobody", new LastForemost().seat(0), BAD);
        due("seat(1) of one", with("000").seat(1), BAD);
        due("seat(6) of seven", with(SEVEN).seat(6), 6);
    }

    @Sentence(promise = 11, says = BELL_SAYS, edge = "at the bell, one minute ahead, one behind")
    void seatByTheBell() {
        LastForemost x = with("190;200;210");
        x.set(0, 20);
        seats(x, "bell at 20", 0, NONE, NONE);
        x.set(0, 21);
        seats(x, "bell at 21", 0, 1, NONE);
        x.set(0, 19);
        seats(x, "bell at 19", NONE, NONE, NONE);
        x.set(0, 20);
        x.waits(0, 1);
        seats(x, "waiting up to the bell", NONE, NONE, NONE);
    }

    @Sentence(promise = 11, says = BELL_SAYS, edge = "the least and the latest bell")
    void seatByLeastAndLatestBell() {
        LastForemost x = with("000;590");
        x.set(0, 0);
        seats(x, "bell at 0", NONE, NONE);
        x.set(0, 1);
        seats(x, "bell at 1", 0, NONE);
        x.set(0, 59);
        seats(x, "bell at 59", 0, NONE);
        x.set(0, 60);
        x.waits(1, 59);
        seats(x, "bell at 60", 0, 1);
    }

    @Sentence(promise = 11, says = "of those who do not, by the minutes at which they GO IN (of "
        + "like ones by numbers), the first one sits on SEAT 0, the next on SEAT 1, and so on",
        edge = "all alike")
    void seatsOfLikeOnes() {
        LastForemost x = with(SEVEN);
        seats(x, "all at 0", 0, 1, 2, 3, 4, 5, 6);
        LastForemost capped = with("590;000;300;580");
        capped.waits(1, 59);
        capped.waits(2, 40);
        capped.waits(3, 59);
        seats(capped, "all at 59", 0, 1, 2, 3);
    }

    @Sentence(promise = 11, says = "by LAW 1 the last one on SEAT 0, the one ahead of it on SEAT "
        + "1, and so on.", edge = "all alike")
    void seatsOfLikeOnesByLawOne() {
        LastForemost x = with(SEVEN);
        x.set(1, 1);
        seats(x, "all at 0", 6, 5, 4, 3, 2, 1, 0);
        LastForemost two = with("010;000;010");
        two.set(1, 1);
        seats(two, "two alike", 1, 2, 0);
    }

    @Sentence(promise = 11, says = "of those who do not, by the minutes at which they GO IN (of "
        + "like ones by numbers), the first one sits on SEAT 0, the next on SEAT 1, and so on",
        edge = "those outside leave no gap")
    void seatsWithoutGaps() {
        LastForemost x = with("100;300;050;590;290");
        x.set(0, 30);
        seats(x, "law 0", 1, NONE, 0, NONE, 2);
        x.set(1, 1);
        seats(x, "law 1", 1, NONE, 2, NONE, 0);
    }

    // ---- 12

    @Sentence(promise = 12, says = "Who sits on a SEAT (0 to 6); NONE. BAD.",
        edge = "too small, too large")
    void whoOnSeatBeside() {
        for (int seat : new int[] {-1, LEAST, 7, MOST}) {
            refused("who(" + seat + ")", x -> x.who(seat), BAD);
        }
    }

    @Sentence(promise = 12, says = "Who sits on a SEAT (0 to 6); NONE. BAD.", edge = "empty, full")
    void whoOnEverySeat() {
        LastForemost x = new LastForemost();
        for (int n = 0; n <= 7; n++) {
            for (int seat = 0; seat < 7; seat++) {
                due("who(" + seat + ") of " + n, x.who(seat), seat < n ? seat : NONE);
            }
            type(x, n == 0 ? "000" : ";000");
        }
        LastForemost out = with(SEVEN);
        out.set(0, 0);
        for (int seat = 0; seat < 7; seat++) {
            due("who(" + seat + "), all outside", out.who(seat), NONE);
        }
    }

    // ---- 13

    @Sentence(promise = 13, says = "What one HAS, as any number. BAD: -10002.",
        edge = "too small, too large: the one")
    void hasOfOneBeside() {
        for (int p : new int[] {-1, LEAST, 6, 7, MOST}) {
            refused("has(" + p + ")", x -> x.has(p), ANY_BAD);
        }
        due("has(0) of nobody", new LastForemost().has(0), ANY_BAD);
        due("has(1) of one", with("000").has(1), ANY_BAD);
    }

    @Sentence(promise = 13, says = "where any number is told, it is -10000 less x.",
        edge = "refused: the value, which none can have")
    void anyNumberRefused() {
        LastForemost x = with("006");
        due("has(1) and 10000", x.has(1) + 10000, BAD);
        due("best(1, 0) and 10000", x.best(1, 0) + 10000, BAD);
        due("best(1, 1) and 10000", x.best(1, 1) + 10000, BAD);
        due("best(0, 2) and 10000", x.best(0, 2) + 10000, BAD);
        due("seat(1), where no such number is told", x.seat(1), BAD);
    }

    @Sentence(promise = 13, says = HAS_SAYS, edge = "the least that one can have")
    void hasLeast() {
        LastForemost x = with("006");
        x.waits(0, 59);
        x.set(3, 9);
        x.set(4, 9);
        rainAllThrough(x);
        due("has(0), 20 less 54 less 531", x.has(0), -565);
        x.set(0, 59);
        due("has(0), outside", x.has(0), -531);
        x.set(4, 0);
        due("has(0), outside and never soaked", x.has(0), 0);
    }

    @Sentence(promise = 13, says = HAS_SAYS, edge = "the most that one can have")
    void hasMost() {
        LastForemost x = with("000;010;020;030;040");
        x.set(2, 4);
        for (int p = 1; p < 7; p++) {
            x.love(0, p, 20);
        }
        due("has(0), 20 and three times 20", x.has(0), 80);
        due("has(4), in another pew", x.has(4), 12);
    }

    @Sentence(promise = 13, says = HAS_SAYS, edge = "CARE and SOAK of 0, off on both sides")
    void hasWithoutCare() {
        LastForemost x = with("006;010");
        due("has(0), six short", x.has(0), 8);
        due("has(1), one beyond", x.has(1), 18);
        x.set(3, 0);
        due("has(0), no care", x.has(0), 20);
        x.waits(0, 1);
        x.rain(0, 1);
        due("has(0), wet", x.has(0), 19);
        x.set(4, 0);
        due("has(0), no soaking", x.has(0), 20);
    }

    @Sentence(promise = 13, says = "PEWS hold WIDE (1 to 4; 2 at first) SEATS: SEAT by WIDE, cut, "
        + "is the PEW.", edge = "the last seat of a pew, a pew not full")
    void hasByPews() {
        int[][] mates = {{0, 0, 0, 0, 0, 0, 0}, {1, 1, 1, 1, 1, 1, 0}, {2, 2, 2, 2, 2, 2, 0},
            {3, 3, 3, 3, 2, 2, 2}};
        LastForemost x = with(ONE_BY_ONE);
        x.set(3, 0);
        for (int a = 0; a < 7; a++) {
            for (int b = 0; b < a; b++) {
                x.love(a, b, 1);
            }
        }
        for (int wide = 1; wide <= 4; wide++) {
            x.set(2, wide);
            for (int p = 0; p < 7; p++) {
                due("has(" + p + "), wide " + wide, x.has(p), 20 + mates[wide - 1][p]);
            }
        }
    }

    @Sentence(promise = 13, says = HAS_SAYS, edge = "outside: no love, none for those who sit")
    void hasOutside() {
        LastForemost x = with("000;590");
        x.love(0, 1, 20);
        due("has(0), beside the other", x.has(0), 40);
        x.set(0, 59);
        due("has(1), outside", x.has(1), 0);
        due("has(0), alone", x.has(0), 20);
    }

    // ---- 14

    @Sentence(promise = 14, says = "BEST: the minutes of waiting (what = 0), what one HAS then "
        + "(1), as any number. BAD: -10002.", edge = "too small, too large: the one, what")
    void bestBeside() {
        for (int p : new int[] {-1, LEAST, 6, 7, MOST}) {
            refused("best(" + p + ", 0)", x -> x.best(p, 0), ANY_BAD);
            refused("best(" + p + ", 1)", x -> x.best(p, 1), ANY_BAD);
        }
        for (int what : new int[] {-1, LEAST, 2, MOST}) {
            refused("best(0, " + what + ")", x -> x.best(0, what), ANY_BAD);
        }
        due("best(0, 0) of nobody", new LastForemost().best(0, 0), ANY_BAD);
    }

    @Sentence(promise = 14, says = BEST_SAYS, edge = "the longest waiting")
    void bestIsLongest() {
        LastForemost x = with("590;001");
        due("best(1, 0)", x.best(1, 0), 59);
        due("best(1, 1)", x.best(1, 1), 20);
        due("best(0, 0), it is at 59", x.best(0, 0), 0);
        due("best(0, 1)", x.best(0, 1), 18);
    }

    @Sentence(promise = 14, says = BEST_SAYS, edge = "like ones: the fewest")
    void bestIsFewest() {
        LastForemost x = with("590;301");
        due("best(1, 0), 29 to 59 are alike", x.best(1, 0), 29);
        due("best(0, 0) of one, all are alike", with("006").best(0, 0), 0);
        due("best(0, 1) of one, all are alike", with("006").best(0, 1), 8);
    }

    @Sentence(promise = 14, says = BEST_SAYS, edge = "the others as told, one's own aside")
    void bestByOthersWaiting() {
        LastForemost x = with("101;200");
        x.waits(1, 30);
        x.waits(0, 59);
        due("best(0, 0), behind minute 50", x.best(0, 0), 41);
        due("best(0, 1)", x.best(0, 1), 20);
        due("waits(0, 0) is as told", x.waits(0, 0), 59);
        due("waits(1, 0) is as told", x.waits(1, 0), 30);
    }

    @Sentence(promise = 14, says = BEST_SAYS, edge = "all below 0, outside is more")
    void bestBelowNought() {
        LastForemost x = with("506");
        x.set(3, 9);
        due("best(0, 0)", x.best(0, 0), 0);
        due("best(0, 1)", x.best(0, 1), -34);
        x.set(0, 55);
        due("best(0, 0), the bell at 55", x.best(0, 0), 5);
        due("best(0, 1), the bell at 55", x.best(0, 1), 0);
        x.set(4, 7);
        rainAllThrough(x);
        due("best(0, 0), 5 minutes cost more", x.best(0, 0), 0);
        due("best(0, 1), 5 minutes cost more", x.best(0, 1), -34);
        x.set(4, 6);
        due("best(0, 0), 5 minutes cost less", x.best(0, 0), 5);
        due("best(0, 1), 5 minutes cost less", x.best(0, 1), -30);
    }

    // ---- 15

    @Sentence(promise = 15, says = REST_ASKS, edge = "too small, too large: the one")
    void restOfOneBeside() {
        for (int p : new int[] {-2, LEAST, 6, 7, MOST}) {
            refused("rest(" + p + ")", x -> x.rest(p), BAD);
        }
        due("rest(0) of nobody", new LastForemost().rest(0), BAD);
        due("rest(1) of one", with("000").rest(1), BAD);
        due("rest(0) of one", with("000").rest(0), 0);
    }

    @Sentence(promise = 15, says = "REST, 6 PEOPLE at most (FULL)", edge = "full")
    void restOfSeven() {
        refused(States::seven, "rest(NONE)", x -> x.rest(NONE), FULL);
        for (int p = 0; p < 7; p++) {
            int one = p;
            refused(States::seven, "rest(" + p + ")", x -> x.rest(one), FULL);
        }
        LastForemost x = with(SEVEN.substring(0, 23));
        due("rest(NONE) of six is answered", x.rest(NONE) > 0 ? 1 : 0, 1);
        type(x, ";000");
        due("rest(NONE) of seven", x.rest(NONE), FULL);
        x.type(';');
        due("rest(NONE) with a fault", x.rest(NONE), 1);
    }

    @Sentence(promise = 15, says = "Refusals, the first that fits, in the order told at each act: "
        + "BAD -2 (a number not as told, no such thing), NULL, NOT -3 (as told), FULL -4, other "
        + "FINDINGS.", edge = "BAD ahead of FULL")
    void badRestOfSeven() {
        for (int p : new int[] {-2, LEAST, 7, MOST}) {
            refused(States::seven, "rest(" + p + ")", x -> x.rest(p), BAD);
        }
    }

    @Sentence(promise = 15, says = REST_ASKS, edge = "empty: nobody")
    void restOfNobody() {
        due("rest(NONE), the empty row", new LastForemost().rest(NONE), 1);
    }

    @Sentence(promise = 15, says = REST_ROWS, edge = "all rows of each number of people")
    void restOfAllRows() {
        LastForemost x = new LastForemost();
        x.set(3, 0);
        int rows = 1;
        for (int n = 1; n <= 6; n++) {
            type(x, n == 1 ? "000" : ";000");
            rows *= 4;
            due("rest(NONE) of " + n, x.rest(NONE), rows);
            due("rest(" + (n - 1) + ") of " + n, x.rest(n - 1), 0);
        }
    }

    private void restInRain(int step, int minute, int rainAt, int rows) {
        LastForemost x = with("" + minute / 10 + minute % 10 + "0");
        x.set(5, step);
        x.rain(rainAt, 1);
        due("rest(NONE) at " + minute + ", step " + step + ", rain at " + rainAt, x.rest(NONE), rows);
        due("rest(0)", x.rest(0), 0);
    }

    @Sentence(promise = 15, says = REST_ROWS, edge = "the least and the greatest step")
    void restByLeastAndGreatestStep() {
        restInRain(1, 0, 0, 1);
        restInRain(1, 0, 1, 2);
        restInRain(1, 0, 2, 3);
        restInRain(1, 0, 3, 4);
        restInRain(15, 0, 14, 1);
        restInRain(15, 0, 15, 2);
        restInRain(15, 0, 29, 2);
        restInRain(15, 0, 44, 3);
        restInRain(15, 0, 45, 4);
    }

    @Sentence(promise = 15, says = REST_ROWS, edge = "steps past the last minute")
    void restPastTheLastMinute() {
        restInRain(15, 50, 58, 1);
        restInRain(15, 50, 59, 4);
        restInRain(5, 49, 57, 2);
        restInRain(5, 49, 58, 2);
        restInRain(5, 49, 59, 4);
        restInRain(15, 59, 59, 4);
    }

    @Sentence(promise = 15, says = REST_ROWS, edge = "what is told aside")
    void restLeavesWhatIsTold() {
        LastForemost x = with("101;120");
        x.waits(0, 59);
        x.waits(1, 1);
        due("rest(NONE)", x.rest(NONE), 7);
        due("waits(0, 0)", x.waits(0, 0), 59);
        due("waits(1, 0)", x.waits(1, 0), 1);
        due("rest(NONE) again", x.rest(NONE), 7);
    }

    @Sentence(promise = 15, says = "and none would HAVE more by another one of these alone: how "
        + "many; the first (by numbers; waiting least is ahead); NONE.", edge = "the first")
    void restByTheFirst() {
        // Both are well if 0 waits more steps than 1; with 0 and 3 steps neither mends it alone.
        LastForemost x = with("101;120");
        due("rest(NONE)", x.rest(NONE), 7);
        due("rest(0)", x.rest(0), 0);
        due("rest(1)", x.rest(1), 3);
        LastForemost turned = with("120;101");
        due("rest(NONE), turned", turned.rest(NONE), 7);
        due("rest(0), turned", turned.rest(0), 0);
        due("rest(1), turned", turned.rest(1), 1);
    }

    @Sentence(promise = 15, says = "and none would HAVE more by another one of these alone: how "
        + "many; the first (by numbers; waiting least is ahead); NONE.", edge = "empty: no row")
    void restWithoutRows() {
        // Both would go in last for 9, each step costs 4: whoever is behind goes one further,
        // till it costs more than it brings, and then the other comes back.
        LastForemost x = with("001;001");
        x.set(3, 9);
        x.set(4, 4);
        for (int minute = 0; minute <= 10; minute += 5) {
            x.rain(minute, 1);
        }
        due("rest(NONE)", x.rest(NONE), 0);
        due("rest(0)", x.rest(0), NONE);
        due("rest(1)", x.rest(1), NONE);
        due("rest(2)", x.rest(2), BAD);
        x.set(4, 0);
        due("rest(NONE), no soaking", x.rest(NONE), 4);
        due("rest(1), no soaking", x.rest(1), 3);
        x.set(4, 4);
        due("rest(NONE), none again", x.rest(NONE), 0);
        due("rest(1), none again", x.rest(1), NONE);
    }

    // ---- 16

    @Sentence(promise = 16, says = CHANGE_ASKS, edge = "too small, too large: the two")
    void changeBeside() {
        for (int p : new int[] {-1, LEAST, 6, 7, MOST}) {
            refused("change(" + p + ", 0)", x -> x.change(p, 0), BAD);
            refused("change(0, " + p + ")", x -> x.change(0, p), BAD);
        }
        due("change(0, 1) of one", with("000").change(0, 1), BAD);
        due("change(0, 1) of nobody", new LastForemost().change(0, 1), BAD);
    }

    @Sentence(promise = 16, says = CHANGE_ASKS, edge = "refused: with oneself")
    void changeWithOneself() {
        for (int p = 0; p < 7; p++) {
            int one = p;
            refused("change(" + p + ", " + p + ")", x -> x.change(one, one), BAD);
        }
    }

    @Sentence(promise = 16, says = CHANGE_ASKS, edge = "refused: one is outside")
    void changeOutside() {
        refused(States::rich, "change(5, 0)", x -> x.change(5, 0), NOT);
        refused(States::rich, "change(0, 5)", x -> x.change(0, 5), NOT);
        LastForemost x = with("001;010");
        due("change(0, 1)", x.change(0, 1), 1);
        x.set(0, 1);
        due("change(0, 1), 1 is outside", x.change(0, 1), NOT);
        x.set(0, 0);
        due("change(0, 1), both are outside", x.change(0, 1), NOT);
    }

    @Sentence(promise = 16, says = "Refusals, the first that fits, in the order told at each act: "
        + "BAD -2 (a number not as told, no such thing), NULL, NOT -3 (as told), FULL -4, other "
        + "FINDINGS.", edge = "BAD ahead of NOT")
    void badChangeOutside() {
        refused(States::rich, "change(5, 5)", x -> x.change(5, 5), BAD);
        refused(States::rich, "change(5, 6)", x -> x.change(5, 6), BAD);
        refused(States::rich, "change(-1, 5)", x -> x.change(-1, 5), BAD);
    }

    @Sentence(promise = 16, says = "CHANGE: two who sit would change their SEATS (all else as it "
        + "is), if both would HAVE more", edge = "one only, or as much as before")
    void changeForOneOnly() {
        LastForemost x = with("001;011");
        due("change(0, 1), 1 is well", x.change(0, 1), 0);
        due("change(1, 0), 1 is well", x.change(1, 0), 0);
        LastForemost like = with("001;010");
        like.set(3, 0);
        due("change(0, 1), as much as before", like.change(0, 1), 0);
        like.set(3, 1);
        due("change(0, 1), one more for both", like.change(0, 1), 1);
        due("seat(0) is as it was", like.seat(0), 0);
    }

    @Sentence(promise = 16, says = "CHANGE: two who sit would change their SEATS (all else as it "
        + "is), if both would HAVE more", edge = "other pews, and the same pew")
    void changeOfPews() {
        LastForemost x = with("000;010;020;030");
        x.set(3, 0);
        x.love(0, 2, 5);
        x.love(1, 3, 5);
        due("change(1, 2), each to whom it loves", x.change(1, 2), 1);
        due("change(0, 3), each to whom it loves", x.change(0, 3), 1);
        due("change(0, 1), the same pew", x.change(0, 1), 0);
        due("change(0, 2), each loves the other alone", x.change(0, 2), 0);
        x.love(1, 3, 0);
        due("change(1, 2), one only has more", x.change(1, 2), 0);
        x.love(0, 3, 5);
        due("change(0, 2), 0 comes to 3, but 2 to none", x.change(0, 2), 0);
        x.love(0, 3, 0);
        x.love(2, 1, 5);
        due("change(0, 2), 2 comes to 1, but 0 to none", x.change(0, 2), 0);
        x.love(0, 3, 5);
        due("change(0, 2), 2 comes to 1 and 0 to 3", x.change(0, 2), 1);
    }

    // ---- 17

    @Sentence(promise = 17, says = "How many pairs would change.", edge = "empty: nobody, one")
    void changesOfNobody() {
        due("changes() of nobody", new LastForemost().changes(), 0);
        due("changes() of one", with("006").changes(), 0);
        due("changes() with a fault", with("001;010;").changes(), 0);
    }

    @Sentence(promise = 17, says = "CHANGE: two who sit would change their SEATS (all else as it "
        + "is), if both would HAVE more: how many pairs.", edge = "one only, or as much as before")
    void changesForOneOnly() {
        LastForemost x = with("001;010");
        due("changes()", x.changes(), 1);
        x.set(3, 0);
        due("changes(), as much as before", x.changes(), 0);
        due("changes(), 1 is well", with("001;011").changes(), 0);
    }

    @Sentence(promise = 17, says = "How many pairs would change.", edge = "full, by the bell")
    void changesOfSeven() {
        // Off by |6 - 2a| and |6 - 2b|, changed both by |6 - a - b|: 0 6, 1 5, 2 4, 0 5, 1 4,
        // 1 6 and 2 5.
        LastForemost x = with("006;015;024;033;042;051;060");
        due("changes() of seven", x.changes(), 7);
        x.set(0, 5);
        due("changes(), 5 and 6 are outside", x.changes(), 2);
        x.set(0, 0);
        due("changes(), all are outside", x.changes(), 0);
    }

    // ---- 18

    @Sentence(promise = 18, says = CHURCHES_ASKS, edge = "too small, too large: what")
    void churchesBeside() {
        for (int what : new int[] {-1, LEAST, 2, MOST}) {
            refused("churches(" + what + ")", x -> x.churches(what), BAD);
        }
    }

    @Sentence(promise = 18, says = CHURCHES_ASKS, edge = "empty, one, full")
    void churchesOfNobodyAndSeven() {
        LastForemost x = new LastForemost();
        x.set(3, 0);
        for (int n = 0; n <= 7; n++) {
            due("churches(0) of " + n, x.churches(0), 1 << n);
            due("churches(1) of " + n, x.churches(1), 0);
            type(x, n == 0 ? "000" : ";000");
        }
    }

    @Sentence(promise = 18, says = "ways by which none would HAVE more by going to the other one "
        + "alone: how many; the least as bits (of those who go to 1); NONE.", edge = "the least")
    void churchesByTheLeast() {
        // Together by law 0 the later one is off, by law 1 the earlier one: they part.
        LastForemost x = with("000;010");
        due("churches(0)", x.churches(0), 2);
        due("churches(1), 0 goes to 1", x.churches(1), 1);
        // Together by law 0 both are well; apart, with 1 in the church of law 0, none has more
        // by going over.
        LastForemost behind = with("000;011");
        due("churches(0), 1 is well behind 0", behind.churches(0), 2);
        due("churches(1), 1 is well behind 0", behind.churches(1), 0);
    }

    @Sentence(promise = 18, says = "ways by which none would HAVE more by going to the other one "
        + "alone: how many; the least as bits (of those who go to 1); NONE.",
        edge = "empty: no way")
    void churchesWithoutWays() {
        LastForemost x = with("150;020;071");
        x.love(0, 1, 20);
        x.love(0, 2, 16);
        x.love(1, 2, 4);
        due("churches(0)", x.churches(0), 0);
        due("churches(1)", x.churches(1), NONE);
        x.set(0, 0);
        due("churches(0), all outside", x.churches(0), 8);
        due("churches(1), all outside", x.churches(1), 0);
        x.set(0, 60);
        due("churches(0), none again", x.churches(0), 0);
        due("churches(1), none again", x.churches(1), NONE);
    }

    @Sentence(promise = 18, says = "CHURCHES: each goes to the one (0: LAW 0) or the other one (1: "
        + "LAW 1)", edge = "all in one of them")
    void churchesAllInOne() {
        // By law 0 both are well together, by law 1 the one who is first would rather be alone;
        // and by a little love none stays apart.
        LastForemost x = with("000;011");
        x.love(0, 1, 1);
        due("churches(0), all in 0", x.churches(0), 1);
        due("churches(1), all in 0", x.churches(1), 0);
        x = with("001;010");
        x.love(0, 1, 1);
        due("churches(0), all in 1", x.churches(0), 1);
        due("churches(1), all in 1", x.churches(1), 3);
        // One more who is outside in both and goes anywhere, behind these two or ahead of them.
        x = with("001;010;590");
        x.love(0, 1, 1);
        x.set(0, 59);
        due("churches(0), 2 is outside", x.churches(0), 2);
        due("churches(1), 2 is outside", x.churches(1), 3);
        x = with("590;001;010");
        x.love(1, 2, 1);
        x.set(0, 59);
        due("churches(0), 0 is outside", x.churches(0), 2);
        due("churches(1), 0 is outside", x.churches(1), 6);
    }

    @Sentence(promise = 18, says = "and sits there by the same BELL, PEWS, waiting as told",
        edge = "all outside, LAW aside")
    void churchesByTheBell() {
        LastForemost x = with("000;010");
        x.set(1, 1);
        due("churches(0), LAW is aside", x.churches(0), 2);
        x.set(0, 1);
        // 1 is outside in both and has 0; 0 sits alone in both.
        due("churches(0), one outside", x.churches(0), 4);
        due("churches(1), one outside", x.churches(1), 0);
        x.set(0, 2);
        due("churches(0), both inside", x.churches(0), 2);
        x.set(0, 60);
        x.waits(0, 1);
        due("churches(0), both at 1", x.churches(0), 2);
        x.set(0, 0);
        due("churches(0), all outside", x.churches(0), 4);
    }
}

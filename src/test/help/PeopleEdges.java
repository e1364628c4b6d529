/** Edges of promises 1 to 10: people, rain, law. */
final class PeopleEdges extends Edges {
    private static final String TYPE_SAYS =
        "A byte (0 to 255) comes behind PEOPLE: how many. BAD; FULL.";
    private static final String READ_SAYS = "Waiting of numbers 0 on by a SHEET, item by item, "
        + "as long as each may be, seven at most: how many. BAD; NULL.";

    // ---- 1

    @Sentence(promise = 1, says = "Nobody; all SHEETS are LOST.", edge = "empty: nobody")
    void newOneHasNobody() {
        LastForemost x = new LastForemost();
        for (int what : new int[] {0, 1, 2, 3, 4, 5, 6, 8}) {
            due("count(" + what + ")", x.count(what), 0);
        }
        due("fault()", x.fault(), NONE);
        for (int p = 0; p < 7; p++) {
            due("person(" + p + ", 0)", x.person(p, 0), BAD);
            due("who(" + p + ")", x.who(p), NONE);
        }
    }

    @Sentence(promise = 1, says = "Nobody; all SHEETS are LOST.", edge = "empty: every sheet")
    void newOneHasNoSheets() {
        for (int s = 0; s < 4; s++) {
            LastForemost x = new LastForemost();
            due("lose(" + s + ")", x.lose(s), NULL);
            due("read(" + s + ")", x.read(s), NULL);
            due("write(" + s + ")", x.write(s), NULL);
        }
    }

    @Sentence(promise = 1, says = "Nobody; all SHEETS are LOST.", edge = "beside a full one")
    void newOneHasNothingOfAnother() {
        States.full();
        LastForemost x = new LastForemost();
        due("wipe()", x.wipe(), 0);
        due("forget()", x.forget(), 0);
        due("count(5)", x.count(5), 0);
        due("set(0, 60)", x.set(0, 60), 60);
        due("waits(6, 0)", x.waits(6, 0), 0);
        due("love(2, 4, 0)", x.love(2, 4, 0), 0);
        due("lose(0)", x.lose(0), NULL);
    }

    @Sentence(promise = 1, says = "An object is used for at most 512 calls after it has been "
        + "made; what later calls answer is free.", edge = "the 512th call")
    void lastCallAnswers() {
        String text = "104;053;202;101;300;596";
        LastForemost x = with(text);
        LastForemost y = with(text);
        int[] waits = new int[7];
        int calls = text.length();
        while (calls < 509) {
            due("waits", x.waits(calls % 7, calls % 60), waits[calls % 7]);
            waits[calls % 7] = calls % 60;
            x.digest();
            calls += 2;
        }
        for (int p = 0; p < 7; p++) {
            y.waits(p, waits[p]);
        }
        due("churches(0), the 510th", x.churches(0), y.churches(0));
        due("seat(5), the 511th", x.seat(5), y.seat(5));
        due("digest(), the 512th", x.digest(), y.digest());
    }

    // ---- 2

    @Sentence(promise = 2, says = TYPE_SAYS, edge = "too small")
    void byteTooSmall() {
        refused("type(-1)", x -> x.type(-1), BAD);
        refused("type(-208)", x -> x.type(-208), BAD);
        refused("type(least)", x -> x.type(LEAST), BAD);
    }

    @Sentence(promise = 2, says = TYPE_SAYS, edge = "too large")
    void byteTooLarge() {
        refused("type(256)", x -> x.type(256), BAD);
        refused("type(304), 48 and 256", x -> x.type(304), BAD);
        refused("type(most)", x -> x.type(MOST), BAD);
    }

    @Sentence(promise = 2, says = TYPE_SAYS, edge = "the least and the greatest")
    void byteLeastAndGreatest() {
        LastForemost x = new LastForemost();
        due("type(0)", x.type(0), 1);
        due("type(255)", x.type(255), 2);
        due("count(1)", x.count(1), 2);
    }

    @Sentence(promise = 2, says = "PEOPLE are a text of up to 40 bytes", edge = "full")
    void textOfFortyIsFull() {
        LastForemost x = new LastForemost();
        for (int i = 1; i <= 40; i++) {
            due("type(59) as the " + i + "th", x.type(59), i);
        }
        due("type(59) as the 41st", x.type(59), FULL);
        due("type(59) again", x.type(59), FULL);
        due("count(1)", x.count(1), 40);
        refused(States::full, "type(0)", y -> y.type(0), FULL);
        refused(States::full, "type(48)", y -> y.type(48), FULL);
        refused(States::full, "type(255)", y -> y.type(255), FULL);
    }

    @Sentence(promise = 2, says = "Refusals, the first that fits, in the order told at each act: "
        + "BAD -2 (a number not as told, no such thing), NULL, NOT -3 (as told), FULL -4, other "
        + "FINDINGS.", edge = "BAD ahead of FULL")
    void badByteOfFullText() {
        refused(States::full, "type(-1)", x -> x.type(-1), BAD);
        refused(States::full, "type(256)", x -> x.type(256), BAD);
    }

    // ---- 3

    @Sentence(promise = 3, says = "PEOPLE are empty: how many bytes they had.", edge = "empty")
    void wipeOfEmptyText() {
        LastForemost x = new LastForemost();
        due("wipe()", x.wipe(), 0);
        due("wipe()", x.wipe(), 0);
        due("type(48)", x.type(48), 1);
        due("wipe()", x.wipe(), 1);
    }

    @Sentence(promise = 3, says = "PEOPLE are empty: how many bytes they had.", edge = "full")
    void wipeOfFullText() {
        LastForemost x = States.full();
        due("wipe()", x.wipe(), 40);
        due("fault()", x.fault(), NONE);
        due("count(1)", x.count(1), 0);
        due("type(48), there is room", x.type(48), 1);
        due("count(4), the facts stay", x.count(4), 8);
        due("count(5), the Sundays stay", x.count(5), 60);
        due("waits(6, 0), waiting stays", x.waits(6, 0), 19);
    }

    @Sentence(promise = 3, says = "PEOPLE are empty: how many bytes they had.",
        edge = "empty, though it was asked before")
    void wipeOfWhatWasAsked() {
        LastForemost x = with("000;010;020");
        due("came(NONE)", x.came(NONE), 6);
        due("rest(NONE) is more than one row", x.rest(NONE) > 1 ? 1 : 0, 1);
        due("churches(1)", x.churches(1) > 0 ? 1 : 0, 1);
        x.wipe();
        due("came(NONE) of nobody", x.came(NONE), 1);
        due("rest(NONE) of nobody", x.rest(NONE), 1);
        due("churches(0) of nobody", x.churches(0), 1);
        due("churches(1) of nobody", x.churches(1), 0);
        due("sure() of nobody", x.sure(), 0);
    }

    @Sentence(promise = 3, says = "PEOPLE are empty: how many bytes they had.",
        edge = "nothing of the former text")
    void wipeLeavesNothing() {
        LastForemost x = with("596;596;596");
        x.wipe();
        type(x, "00");
        due("fault()", x.fault(), 2);
        due("count(0)", x.count(0), 0);
        type(x, "0");
        due("count(0)", x.count(0), 1);
        due("person(1, 0)", x.person(1, 0), BAD);
    }

    // ---- 4

    @Sentence(promise = 4, says = "The FAULT is the place of the first byte with which it cannot "
        + "go on", edge = "every byte at every place")
    void everyByteAtEveryPlace() {
        String[] fitting = {"012345", "0123456789", "0123456", ";"};
        for (int place = 0; place < SEVEN.length(); place++) {
            for (int b = 0; b <= 255; b++) {
                LastForemost x = with(SEVEN.substring(0, place));
                x.type(b);
                boolean fits = fitting[place % 4].indexOf(b) >= 0;
                int end = place % 4 == 2 ? NONE : place + 1;
                due("fault() of " + b + " at " + place, x.fault(), fits ? end : place);
            }
        }
    }

    @Sentence(promise = 4, says = "The FAULT is the place of the first byte with which it cannot "
        + "go on", edge = "the first of several")
    void firstOfSeveralFaults() {
        LastForemost x = with("000;0x");
        due("fault()", x.fault(), 5);
        type(x, "0;x00;7");
        due("fault(), more came", x.fault(), 5);
        type(x, "00000000000000000000000000000000000");
        due("fault() of a full text", x.fault(), 5);
        due("count(1)", x.count(1), 40);
    }

    @Sentence(promise = 4, says = "(an empty text is well; of one that is not ended, its end)",
        edge = "empty")
    void emptyTextIsWell() {
        LastForemost x = new LastForemost();
        due("fault()", x.fault(), NONE);
        type(x, "x");
        due("fault() of x", x.fault(), 0);
        x.wipe();
        due("fault() of a wiped text", x.fault(), NONE);
    }

    @Sentence(promise = 4, says = "(an empty text is well; of one that is not ended, its end)",
        edge = "not ended, every length")
    void textNotEnded() {
        LastForemost x = new LastForemost();
        String text = SEVEN + ";";
        for (int length = 1; length <= text.length(); length++) {
            x.type(text.charAt(length - 1));
            boolean ended = length % 4 == 3;
            due("fault() of " + length + " bytes", x.fault(), ended ? NONE : length);
            due("count(0) of " + length + " bytes", x.count(0), ended ? length / 4 + 1 : 0);
        }
    }

    @Sentence(promise = 4, says = "or of the first byte of an eighth.", edge = "too many")
    void firstByteOfEighth() {
        LastForemost x = with(SEVEN);
        due("fault() of seven", x.fault(), NONE);
        due("count(0) of seven", x.count(0), 7);
        type(x, ";");
        for (int length = 29; length <= 40; length++) {
            x.type(";000;000;000".charAt((length - 28) % 12));
            due("fault() of " + length + " bytes", x.fault(), 28);
            due("count(0) of " + length + " bytes", x.count(0), 0);
        }
    }

    @Sentence(promise = 4, says = "or of the first byte of an eighth.", edge = "any byte there")
    void anyByteOfEighth() {
        for (int b = 0; b <= 255; b++) {
            LastForemost x = with(SEVEN + ";");
            x.type(b);
            due("fault() of " + b + " behind seven", x.fault(), 28);
        }
    }

    @Sentence(promise = 4, says = "three figures for each with ; between them, 7 at most (0 on)",
        edge = "empty, one, full: numbers 0 to 6")
    void nobodyToSeven() {
        LastForemost x = new LastForemost();
        for (int n = 0; n <= 7; n++) {
            due("count(0) of " + n, x.count(0), n);
            for (int p = 0; p < 7; p++) {
                due("person(" + p + ", 0) of " + n, x.person(p, 0), p < n ? 11 * p % 60 : BAD);
                due("person(" + p + ", 1) of " + n, x.person(p, 1), p < n ? 6 - p : BAD);
            }
            int minute = 11 * n % 60;
            type(x, (n == 0 ? "" : ";") + minute / 10 + minute % 10 + (n == 7 ? 0 : 6 - n));
        }
        due("count(0) of eight", x.count(0), 0);
    }

    @Sentence(promise = 4, says = "The FAULT; NONE.", edge = "from one to the other and back")
    void faultComesAndGoes() {
        LastForemost x = new LastForemost();
        int[] want = {1, 2, NONE, 4, 5, 6, NONE, 8};
        for (int i = 0; i < want.length; i++) {
            x.type(SEVEN.charAt(i));
            due("fault() of " + (i + 1) + " bytes", x.fault(), want[i]);
        }
        x.type(255);
        due("fault() of 255 behind them", x.fault(), 8);
        x.wipe();
        due("fault() of none", x.fault(), NONE);
    }

    @Sentence(promise = 4, says = "the MINUTE at which one comes to the porch (00 to 59)",
        edge = "too large")
    void minuteTooLarge() {
        for (int minute = 0; minute <= 99; minute++) {
            LastForemost x = with("" + minute / 10 + minute % 10 + "0");
            boolean well = minute <= 59;
            due("fault() of minute " + minute, x.fault(), well ? NONE : 0);
            due("person(0, 0) of minute " + minute, x.person(0, 0), well ? minute : BAD);
        }
    }

    @Sentence(promise = 4, says = "the SEAT that one would like (0 to 6; 0 is the one at the back)",
        edge = "too large")
    void wishTooLarge() {
        for (int wish = 0; wish <= 9; wish++) {
            LastForemost x = with("59" + wish);
            boolean well = wish <= 6;
            due("fault() of wish " + wish, x.fault(), well ? NONE : 2);
            due("person(0, 1) of wish " + wish, x.person(0, 1), well ? wish : BAD);
        }
    }

    @Sentence(promise = 4, says = "With a FAULT there is nobody.", edge = "refused: asked of one")
    void nobodyToAskOf() {
        LastForemost x = with("104;053;");
        for (int p = 0; p < 2; p++) {
            due("person(" + p + ", 0)", x.person(p, 0), BAD);
            due("seat(" + p + ")", x.seat(p), BAD);
            due("has(" + p + ")", x.has(p), ANY_BAD);
            due("best(" + p + ", 0)", x.best(p, 0), ANY_BAD);
            due("rest(" + p + ")", x.rest(p), BAD);
            due("came(" + p + ")", x.came(p), BAD);
            due("fair(" + p + ", 0)", x.fair(p, 0), LONG_BAD);
            due("lot(7, " + p + ")", x.lot(7, p), BAD);
        }
        due("change(0, 1)", x.change(0, 1), BAD);
    }

    @Sentence(promise = 4, says = "With a FAULT there is nobody.", edge = "empty: asked of all")
    void nobodyInAll() {
        LastForemost x = with("104;053;");
        for (int what : new int[] {0, 2, 6}) {
            due("count(" + what + ")", x.count(what), 0);
        }
        for (int seat = 0; seat < 7; seat++) {
            due("who(" + seat + ")", x.who(seat), NONE);
        }
        due("rest(NONE)", x.rest(NONE), 1);
        due("changes()", x.changes(), 0);
        due("churches(0)", x.churches(0), 1);
        due("churches(1)", x.churches(1), 0);
        due("came(NONE)", x.came(NONE), 1);
        due("sure()", x.sure(), 0);
        due("allLate(0)", x.allLate(0), 1);
        due("allLate(1)", x.allLate(1), 1);
        x.sheet(0, 0, 2);
        due("write(0)", x.write(0), 0);
        type(x, "000");
        due("count(0), they are back", x.count(0), 3);
        due("seat(0), they are back", x.seat(0), 2);
    }

    // ---- 5

    @Sentence(promise = 5, says = "Of one of the PEOPLE: MINUTE (what = 0), WISH (1), when one "
        + "GOES IN (2), WET (3). BAD.", edge = "too small, too large: the one")
    void personBeside() {
        for (int p : new int[] {-1, LEAST, 7, MOST}) {
            refused("person(" + p + ", 0)", x -> x.person(p, 0), BAD);
        }
        LastForemost x = with("104;053");
        due("person(1, 0)", x.person(1, 0), 5);
        due("person(2, 0)", x.person(2, 0), BAD);
        due("person(0, 0) of nobody", new LastForemost().person(0, 0), BAD);
        due("person(6, 1) of seven", with(SEVEN).person(6, 1), 0);
    }

    @Sentence(promise = 5, says = "Of one of the PEOPLE: MINUTE (what = 0), WISH (1), when one "
        + "GOES IN (2), WET (3). BAD.", edge = "too small, too large: what")
    void personWhatBeside() {
        for (int what : new int[] {-1, LEAST, 4, MOST}) {
            refused("person(0, " + what + ")", x -> x.person(0, what), BAD);
        }
    }

    @Sentence(promise = 5, says = "and GOES IN then (MINUTE and these; 59 at most)",
        edge = "too large")
    void goesInAtFiftyNineAtMost() {
        int[][] cases = {{0, 0, 0}, {0, 59, 59}, {1, 58, 59}, {1, 59, 59}, {58, 0, 58}, {58, 1, 59},
            {58, 2, 59}, {57, 1, 58}, {59, 0, 59}, {59, 1, 59}, {59, 59, 59}, {30, 28, 58}};
        for (int[] each : cases) {
            LastForemost x = with("" + each[0] / 10 + each[0] % 10 + "0");
            x.waits(0, each[1]);
            due("person(0, 2) of " + each[0] + " and " + each[1], x.person(0, 2), each[2]);
            due("person(0, 0) stays", x.person(0, 0), each[0]);
        }
    }

    @Sentence(promise = 5, says = "WET: how many of the minutes from MINUTE on, ahead of that in "
        + "which one GOES IN, it rains.", edge = "the first and the last of them")
    void wetFromMinuteOn() {
        int[][] cases = {{9, 0}, {10, 1}, {11, 1}, {19, 1}, {20, 0}, {21, 0}};
        for (int[] each : cases) {
            LastForemost x = with("100");
            x.waits(0, 10);
            x.rain(each[0], 1);
            due("person(0, 3), rain at " + each[0], x.person(0, 3), each[1]);
        }
    }

    @Sentence(promise = 5, says = "WET: how many of the minutes from MINUTE on, ahead of that in "
        + "which one GOES IN, it rains.", edge = "empty and full")
    void wetNeverAndAlways() {
        LastForemost x = with("000;590;300");
        x.waits(0, 59);
        x.waits(1, 59);
        due("person(0, 3), no rain", x.person(0, 3), 0);
        for (int minute = 0; minute < 60; minute++) {
            x.rain(minute, 1);
        }
        due("person(0, 3), all through", x.person(0, 3), 59);
        due("person(1, 3), at 59", x.person(1, 3), 0);
        due("person(2, 3), no waiting", x.person(2, 3), 0);
        x.waits(2, 59);
        due("person(2, 3), up to 59", x.person(2, 3), 29);
    }

    // ---- 6

    @Sentence(promise = 6, says = "One (0 to 6) WAITS: how long one did. BAD.",
        edge = "too small, too large: the one")
    void waitingOneBeside() {
        for (int p : new int[] {-1, LEAST, 7, MOST}) {
            refused("waits(" + p + ", 5)", x -> x.waits(p, 5), BAD);
        }
    }

    @Sentence(promise = 6, says = "One WAITS behind the yew so many minutes (0 to 59 of numbers 0 "
        + "to 6, there or not; 0 at first)", edge = "too small, too large: the minutes")
    void waitingBeside() {
        for (int v : new int[] {-1, LEAST, 60, MOST}) {
            refused("waits(0, " + v + ")", x -> x.waits(0, v), BAD);
            refused("waits(6, " + v + ")", x -> x.waits(6, v), BAD);
        }
    }

    @Sentence(promise = 6, says = "One WAITS behind the yew so many minutes (0 to 59 of numbers 0 "
        + "to 6, there or not; 0 at first)", edge = "the least and the most, at first")
    void waitingLeastAndMost() {
        LastForemost x = new LastForemost();
        for (int p = 0; p < 7; p++) {
            due("waits(" + p + ", 59)", x.waits(p, 59), 0);
            due("waits(" + p + ", 0)", x.waits(p, 0), 59);
            due("waits(" + p + ", 1)", x.waits(p, 1), 0);
        }
    }

    @Sentence(promise = 6, says = "One WAITS behind the yew so many minutes (0 to 59 of numbers 0 "
        + "to 6, there or not; 0 at first)", edge = "one who is not there")
    void waitingOfOneWhoIsNotThere() {
        LastForemost x = new LastForemost();
        x.waits(6, 9);
        type(x, SEVEN.substring(0, 23));
        due("waits(6, 12) of six", x.waits(6, 12), 9);
        type(x, ";000");
        due("person(6, 2) of seven", x.person(6, 2), 12);
        x.wipe();
        due("waits(6, 0) of nobody", x.waits(6, 0), 12);
    }

    // ---- 7

    @Sentence(promise = 7, says = "RAIN in a minute: what it was. BAD.",
        edge = "too small, too large: the minute")
    void rainMinuteBeside() {
        for (int minute : new int[] {-1, LEAST, 60, MOST}) {
            refused("rain(" + minute + ", 1)", x -> x.rain(minute, 1), BAD);
            refused("rain(" + minute + ", 0)", x -> x.rain(minute, 0), BAD);
        }
    }

    @Sentence(promise = 7, says = "RAIN: in each minute (0 to 59) it rains (1) or not (0; at "
        + "first)", edge = "too small, too large: what it does")
    void rainBeside() {
        for (int v : new int[] {-1, LEAST, 2, MOST}) {
            refused("rain(5, " + v + ")", x -> x.rain(5, v), BAD);
            refused("rain(59, " + v + ")", x -> x.rain(59, v), BAD);
            refused("rain(0, " + v + ")", x -> x.rain(0, v), BAD);
        }
    }

    @Sentence(promise = 7, says = "RAIN: in each minute (0 to 59) it rains (1) or not (0; at "
        + "first)", edge = "every minute, full and empty")
    void rainInEveryMinute() {
        LastForemost x = new LastForemost();
        for (int minute = 0; minute < 60; minute++) {
            due("rain(" + minute + ", 1)", x.rain(minute, 1), 0);
            due("count(3)", x.count(3), minute + 1);
            due("rain(" + minute + ", 1) again", x.rain(minute, 1), 1);
        }
        due("count(3), full", x.count(3), 60);
        for (int minute = 59; minute >= 0; minute--) {
            due("rain(" + minute + ", 0)", x.rain(minute, 0), 1);
        }
        due("count(3), empty", x.count(3), 0);
        due("rain(0, 0)", x.rain(0, 0), 0);
    }

    // ---- 8

    @Sentence(promise = 8, says = "BELL (what = 0), LAW (1), WIDE (2), CARE (3), SOAK (4), STEP "
        + "(5): what it was. BAD.", edge = "too small, too large: what")
    void settingBeside() {
        for (int what : new int[] {-1, LEAST, 6, MOST}) {
            refused("set(" + what + ", 1)", x -> x.set(what, 1), BAD);
        }
    }

    private void bounds(int what, int least, int most, int first) {
        for (int v : new int[] {least - 1, LEAST, most + 1, MOST}) {
            refused("set(" + what + ", " + v + ")", x -> x.set(what, v), BAD);
        }
        LastForemost x = new LastForemost();
        due("set(" + what + ", " + least + ")", x.set(what, least), first);
        due("set(" + what + ", " + most + ")", x.set(what, most), least);
        due("set(" + what + ", " + least + ")", x.set(what, least), most);
    }

    @Sentence(promise = 8, says = "BELL (0 to 60; 60 at first)", edge = "too small, too large")
    void bellBeside() {
        bounds(0, 0, 60, 60);
    }

    @Sentence(promise = 8, says = "LAW (0, 1; 0 at first)", edge = "too small, too large")
    void lawBeside() {
        bounds(1, 0, 1, 0);
    }

    @Sentence(promise = 8, says = "PEWS hold WIDE (1 to 4; 2 at first) SEATS",
        edge = "too small, too large")
    void wideBeside() {
        bounds(2, 1, 4, 2);
    }

    @Sentence(promise = 8, says = "CARE (0 to 9; 2 at first)", edge = "too small, too large")
    void careBeside() {
        bounds(3, 0, 9, 2);
    }

    @Sentence(promise = 8, says = "SOAK (0 to 9; 1 at first)", edge = "too small, too large")
    void soakBeside() {
        bounds(4, 0, 9, 1);
    }

    @Sentence(promise = 8, says = "STEP (1 to 15; 5 at first)", edge = "too small, too large")
    void stepBeside() {
        bounds(5, 1, 15, 5);
    }

    // ---- 9

    @Sentence(promise = 9, says = "LOVE of two (0 to 6): what it was. BAD: also of one with "
        + "oneself.", edge = "too small, too large: the two")
    void lovingOneBeside() {
        for (int p : new int[] {-1, LEAST, 7, MOST}) {
            refused("love(" + p + ", 1, 5)", x -> x.love(p, 1, 5), BAD);
            refused("love(1, " + p + ", 5)", x -> x.love(1, p, 5), BAD);
        }
    }

    @Sentence(promise = 9, says = "LOVE of two (0 to 6): what it was. BAD: also of one with "
        + "oneself.", edge = "refused: with oneself")
    void loveOfOneself() {
        for (int p = 0; p < 7; p++) {
            int one = p;
            refused("love(" + p + ", " + p + ", 5)", x -> x.love(one, one, 5), BAD);
        }
        refused("love(7, 7, 5)", x -> x.love(7, 7, 5), BAD);
    }

    @Sentence(promise = 9, says = "LOVE (0 to 20 of each two numbers, alike both ways; 0 at "
        + "first).", edge = "too small, too large: how much")
    void loveBeside() {
        for (int v : new int[] {-1, LEAST, 21, MOST}) {
            refused("love(0, 1, " + v + ")", x -> x.love(0, 1, v), BAD);
            refused("love(6, 5, " + v + ")", x -> x.love(6, 5, v), BAD);
        }
    }

    @Sentence(promise = 9, says = "LOVE (0 to 20 of each two numbers, alike both ways; 0 at "
        + "first).", edge = "the least and the most, each two, there or not")
    void loveLeastAndMost() {
        LastForemost x = new LastForemost();
        for (int a = 0; a < 7; a++) {
            for (int b = 0; b < a; b++) {
                due("love(" + a + ", " + b + ", 20)", x.love(a, b, 20), 0);
                due("love(" + b + ", " + a + ", 0)", x.love(b, a, 0), 20);
                due("love(" + a + ", " + b + ", 1)", x.love(a, b, 1), 0);
                due("love(" + b + ", " + a + ", 1)", x.love(b, a, 1), 1);
            }
        }
    }

    // ---- 10

    @Sentence(promise = 10, says = READ_SAYS, edge = "too small, too large: the sheet")
    void readSheetBeside() {
        for (int s : new int[] {-1, LEAST, 4, MOST}) {
            refused("read(" + s + ")", x -> x.read(s), BAD);
        }
    }

    @Sentence(promise = 10, says = READ_SAYS, edge = "refused: a lost sheet")
    void readLostSheet() {
        refused("read(3)", x -> x.read(3), NULL);
        LastForemost x = States.rich();
        x.lose(0);
        due("read(0), lost again", x.read(0), NULL);
        due("waits(0, 0)", x.waits(0, 0), 1);
    }

    @Sentence(promise = 10, says = READ_SAYS, edge = "empty: no items")
    void readNoItems() {
        for (int form = 0; form < 3; form++) {
            LastForemost x = States.rich();
            x.sheet(3, form, 0);
            due("read(3)", x.read(3), 0);
            for (int p = 0; p < 7; p++) {
                due("waits(" + p + ", 0) stays", x.waits(p, 0), 3 * p + 1);
            }
            due("count(8) stays", x.count(8), 5);
        }
    }

    @Sentence(promise = 10, says = READ_SAYS, edge = "fewer than seven")
    void readFewItems() {
        for (int n = 1; n <= 6; n++) {
            LastForemost x = States.rich();
            x.sheet(3, 1, n);
            due("read(3) of " + n, x.read(3), n);
            for (int p = 0; p < 7; p++) {
                due("waits(" + p + ", 0)", x.waits(p, 0), p < n ? 0 : 3 * p + 1);
            }
        }
    }

    @Sentence(promise = 10, says = READ_SAYS, edge = "too many: an eighth item")
    void readSevenAtMost() {
        for (int n : new int[] {7, 8, 60}) {
            LastForemost x = States.rich();
            x.sheet(3, 0, n);
            for (int i = 0; i < Math.min(n, 9); i++) {
                x.lay(3, 0, i, i < 7 ? 59 - i : 99);
            }
            due("read(3) of " + n, x.read(3), 7);
            for (int p = 0; p < 7; p++) {
                due("waits(" + p + ", 0)", x.waits(p, 0), 59 - p);
            }
        }
    }

    private void stopsAt(int form, int v) {
        for (int place = 0; place < 7; place++) {
            LastForemost x = States.rich();
            x.sheet(3, form, 9);
            x.lay(3, form, place, v);
            due("read(3), " + v + " at " + place, x.read(3), place);
            for (int p = 0; p < 7; p++) {
                due("waits(" + p + ", 0)", x.waits(p, 0), p < place ? 0 : 3 * p + 1);
            }
        }
    }

    @Sentence(promise = 10, says = READ_SAYS, edge = "an item too small")
    void readUpToTooSmall() {
        stopsAt(0, -1);
        stopsAt(0, -128);
        stopsAt(1, -32768);
        stopsAt(2, LEAST);
    }

    @Sentence(promise = 10, says = READ_SAYS, edge = "an item too large")
    void readUpToTooLarge() {
        stopsAt(0, 60);
        stopsAt(0, 127);
        stopsAt(1, 256);
        stopsAt(2, 65536);
        stopsAt(2, MOST);
    }

    @Sentence(promise = 10, says = READ_SAYS, edge = "the least and the greatest item")
    void readLeastAndGreatest() {
        LastForemost x = new LastForemost();
        for (int p = 0; p < 7; p++) {
            x.waits(p, 30);
        }
        x.sheet(0, 2, 2);
        x.lay(0, 2, 0, 59);
        due("read(0)", x.read(0), 2);
        due("waits(0, 0)", x.waits(0, 0), 59);
        due("waits(1, 0)", x.waits(1, 0), 0);
        due("waits(2, 0)", x.waits(2, 0), 30);
    }
}

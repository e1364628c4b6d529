/** Promise by promise: ordinary inputs, the edges that the document names, wrong inputs. */
public final class PromisesTest {
    private static final int NONE = -1, BAD = -2, NOT = -3, FULL = -4;
    private static final int NULL = -11, INDEX = -12, CAST = -13, STORE = -14, SIZE = -15;
    private static final int ANY_BAD = -10002;
    private static final long LONG_BAD = Long.MIN_VALUE + 2;
    private static final int LEAST = Integer.MIN_VALUE, MOST = Integer.MAX_VALUE;
    private static int wrong = 0;
    private static int promise = 0;

    private static void due(String call, long got, long want) {
        if (got != want) {
            wrong++;
            System.out.println("promise " + promise + ": " + call + " answered " + got
                + ", due is " + want);
        }
    }

    private static LastForemost with(String text) {
        LastForemost x = new LastForemost();
        type(x, text);
        return x;
    }

    private static void type(LastForemost x, String text) {
        for (int i = 0; i < text.length(); i++) {
            x.type(text.charAt(i));
        }
    }

    public static void main(String[] args) {
        newObject();
        type();
        wipe();
        fault();
        person();
        waits();
        rain();
        set();
        love();
        read();
        seat();
        who();
        has();
        best();
        rest();
        change();
        changes();
        churches();
        sat();
        front();
        forget();
        came();
        sure();
        fair();
        lot();
        sunday();
        late();
        allLate();
        sheet();
        lose();
        lay();
        get();
        copy();
        write();
        count();
        digest();
        System.out.println(wrong == 0 ? "all promises are kept" : wrong + " answers are not as due");
        if (wrong != 0) {
            System.exit(1);
        }
    }

    private static void newObject() {
        promise = 1;
        LastForemost x = new LastForemost();
        int[] counts = {0, 0, 0, 0, 0, 0, 0, 60, 0};
        for (int what = 0; what < counts.length; what++) {
            due("count(" + what + ")", x.count(what), counts[what]);
        }
        for (int s = 0; s < 4; s++) {
            due("lose(" + s + ")", x.lose(s), NULL);
        }
        int[] settings = {60, 0, 2, 2, 1, 5};
        for (int what = 0; what < settings.length; what++) {
            due("set(" + what + ", 1)", x.set(what, 1), settings[what]);
        }
        for (int a = 0; a < 7; a++) {
            due("waits(" + a + ", 0)", x.waits(a, 0), 0);
            for (int b = 0; b < a; b++) {
                due("love(" + a + ", " + b + ", 0)", x.love(a, b, 0), 0);
            }
        }
        for (int minute = 0; minute < 60; minute++) {
            due("rain(" + minute + ", 0)", x.rain(minute, 0), 0);
        }
        due("another one is not touched", new LastForemost().set(0, 5), 60);
    }

    private static void type() {
        promise = 2;
        LastForemost x = new LastForemost();
        due("type(-1)", x.type(-1), BAD);
        due("type(256)", x.type(256), BAD);
        due("type(least)", x.type(LEAST), BAD);
        due("type(most)", x.type(MOST), BAD);
        due("type(0)", x.type(0), 1);
        due("type(255)", x.type(255), 2);
        for (int i = 3; i <= 40; i++) {
            due("type(48)", x.type(48), i);
        }
        due("type(48)", x.type(48), FULL);
        due("type(256) of a full text", x.type(256), BAD);
        due("count(1)", x.count(1), 40);
        due("fault()", x.fault(), 0);
    }

    private static void wipe() {
        promise = 3;
        LastForemost x = with("100;053");
        x.waits(0, 9);
        x.love(0, 1, 3);
        x.sat(0, 1);
        due("wipe()", x.wipe(), 7);
        due("wipe()", x.wipe(), 0);
        due("count(0)", x.count(0), 0);
        due("count(1)", x.count(1), 0);
        due("fault()", x.fault(), NONE);
        due("count(4)", x.count(4), 1);
        due("waits(0, 0)", x.waits(0, 0), 9);
        due("love(0, 1, 0)", x.love(0, 1, 0), 3);
        due("type(52)", x.type(52), 1);
    }

    private static void fault() {
        promise = 4;
        String seven = "000;000;000;000;000;000;000";
        Object[][] cases = {
            {"", NONE, 0}, {"0", 1, 0}, {"00", 2, 0}, {"000", NONE, 1}, {"000;", 4, 0},
            {"000;5", 5, 0}, {"596", NONE, 1}, {"600", 0, 0}, {"5:0", 1, 0}, {"5/0", 1, 0},
            {"597", 2, 0}, {"/00", 0, 0}, {"00/", 2, 0}, {"000:", 3, 0}, {"0000", 3, 0},
            {";", 0, 0}, {"000;;", 4, 0}, {"000; 000", 4, 0}, {"000;x00;y", 4, 0},
            {seven, NONE, 7}, {seven + ";", 28, 0}, {seven + ";0", 28, 0}, {seven + ";000", 28, 0},
            {seven + ";x", 28, 0}, {seven + "x", 27, 0}, {seven + ";000;000;000", 28, 0},
            {"00\u00b0", 2, 0},
        };
        for (Object[] each : cases) {
            LastForemost x = with((String) each[0]);
            due("fault() of " + each[0], x.fault(), (Integer) each[1]);
            due("count(0) of " + each[0], x.count(0), (Integer) each[2]);
        }
        LastForemost x = with("000;000");
        x.type(';');
        due("seat(0) with a fault", x.seat(0), BAD);
        due("who(0) with a fault", x.who(0), NONE);
        type(x, "123");
        due("person(2, 0)", x.person(2, 0), 12);
    }

    private static void person() {
        promise = 5;
        LastForemost x = with("104;596;000");
        x.waits(0, 7);
        x.waits(1, 5);
        x.waits(2, 59);
        for (int minute : new int[] {9, 10, 16, 17, 59}) {
            x.rain(minute, 1);
        }
        int[][] all = {{10, 4, 17, 2}, {59, 6, 59, 0}, {0, 0, 59, 4}};
        for (int p = 0; p < 3; p++) {
            for (int what = 0; what < 4; what++) {
                due("person(" + p + ", " + what + ")", x.person(p, what), all[p][what]);
            }
        }
        due("person(3, 0)", x.person(3, 0), BAD);
        due("person(-1, 0)", x.person(-1, 0), BAD);
        due("person(0, -1)", x.person(0, -1), BAD);
        due("person(0, 4)", x.person(0, 4), BAD);
        due("person(least, most)", x.person(LEAST, MOST), BAD);
    }

    private static void waits() {
        promise = 6;
        LastForemost x = new LastForemost();
        due("waits(6, 59)", x.waits(6, 59), 0);
        due("waits(6, 0)", x.waits(6, 0), 59);
        due("waits(6, 3)", x.waits(6, 3), 0);
        due("waits(7, 0)", x.waits(7, 0), BAD);
        due("waits(-1, 0)", x.waits(-1, 0), BAD);
        due("waits(6, 60)", x.waits(6, 60), BAD);
        due("waits(6, -1)", x.waits(6, -1), BAD);
        due("waits(6, 3)", x.waits(6, 3), 3);
        due("waits(5, 1)", x.waits(5, 1), 0);
        due("waits(least, 1)", x.waits(LEAST, 1), BAD);
    }

    private static void rain() {
        promise = 7;
        LastForemost x = new LastForemost();
        due("rain(0, 1)", x.rain(0, 1), 0);
        due("rain(59, 1)", x.rain(59, 1), 0);
        due("rain(0, 1)", x.rain(0, 1), 1);
        due("count(3)", x.count(3), 2);
        due("rain(1, 0)", x.rain(1, 0), 0);
        due("rain(58, 0)", x.rain(58, 0), 0);
        due("rain(0, 0)", x.rain(0, 0), 1);
        due("count(3)", x.count(3), 1);
        due("rain(60, 0)", x.rain(60, 0), BAD);
        due("rain(-1, 0)", x.rain(-1, 0), BAD);
        due("rain(5, 2)", x.rain(5, 2), BAD);
        due("rain(5, -1)", x.rain(5, -1), BAD);
        due("rain(most, 1)", x.rain(MOST, 1), BAD);
        due("rain(5, 1)", x.rain(5, 1), 0);
    }

    private static void set() {
        promise = 8;
        LastForemost x = new LastForemost();
        int[] first = {60, 0, 2, 2, 1, 5};
        int[] least = {0, 0, 1, 0, 0, 1};
        int[] most = {60, 1, 4, 9, 9, 15};
        for (int what = 0; what < 6; what++) {
            due("set below " + what, x.set(what, least[what] - 1), BAD);
            due("set above " + what, x.set(what, most[what] + 1), BAD);
            due("set least " + what, x.set(what, least[what]), first[what]);
            due("set most " + what, x.set(what, most[what]), least[what]);
            due("set again " + what, x.set(what, most[what]), most[what]);
        }
        due("set(6, 0)", x.set(6, 0), BAD);
        due("set(-1, 0)", x.set(-1, 0), BAD);
        due("set(least, most)", x.set(LEAST, MOST), BAD);
    }

    private static void love() {
        promise = 9;
        LastForemost x = new LastForemost();
        due("love(0, 6, 20)", x.love(0, 6, 20), 0);
        due("love(6, 0, 0)", x.love(6, 0, 0), 20);
        due("love(0, 6, 1)", x.love(0, 6, 1), 0);
        due("love(6, 6, 1)", x.love(6, 6, 1), BAD);
        due("love(7, 0, 1)", x.love(7, 0, 1), BAD);
        due("love(0, 7, 1)", x.love(0, 7, 1), BAD);
        due("love(-1, 0, 1)", x.love(-1, 0, 1), BAD);
        due("love(0, -1, 1)", x.love(0, -1, 1), BAD);
        due("love(0, 6, 21)", x.love(0, 6, 21), BAD);
        due("love(0, 6, -1)", x.love(0, 6, -1), BAD);
        due("love(6, 0, 1)", x.love(6, 0, 1), 1);
        due("love(5, 0, 1)", x.love(5, 0, 1), 0);
    }

    private static void read() {
        promise = 10;
        LastForemost x = new LastForemost();
        due("read(-1)", x.read(-1), BAD);
        due("read(4)", x.read(4), BAD);
        due("count(8)", x.count(8), 0);
        due("read(3)", x.read(3), NULL);
        due("count(8)", x.count(8), 1);
        for (int p = 0; p < 7; p++) {
            x.waits(p, 50);
        }
        x.sheet(3, 2, 0);
        due("read(3) of no items", x.read(3), 0);
        x.sheet(3, 2, 9);
        due("read(3) of nine 0s", x.read(3), 7);
        due("waits(6, 50)", x.waits(6, 50), 0);
        x.sheet(2, 0, 3);
        x.lay(2, 0, 0, 59);
        x.lay(2, 0, 1, -1);
        due("read(2) up to -1", x.read(2), 1);
        due("waits(0, 0)", x.waits(0, 0), 59);
        due("waits(1, 0)", x.waits(1, 0), 0);
        x.lay(2, 0, 0, 60);
        due("read(2) of 60", x.read(2), 0);
        due("waits(0, 0)", x.waits(0, 0), 0);
    }

    private static void seat() {
        promise = 11;
        LastForemost x = with("100;050;200;100;300");
        int[] byLaw0 = {1, 0, 3, 2, 4};
        for (int p = 0; p < 5; p++) {
            due("seat(" + p + ")", x.seat(p), byLaw0[p]);
        }
        x.set(1, 1);
        for (int p = 0; p < 5; p++) {
            due("seat(" + p + ") by law 1", x.seat(p), 4 - byLaw0[p]);
        }
        x.set(0, 20);
        int[] rung = {1, 2, NONE, 0, NONE};
        for (int p = 0; p < 5; p++) {
            due("seat(" + p + ") by the bell", x.seat(p), rung[p]);
        }
        x.waits(0, 9);
        due("seat(0)", x.seat(0), 0);
        x.waits(0, 10);
        due("seat(0)", x.seat(0), NONE);
        due("seat(5)", x.seat(5), BAD);
        due("seat(-1)", x.seat(-1), BAD);
        due("seat(most)", x.seat(MOST), BAD);
    }

    private static void who() {
        promise = 12;
        LastForemost x = with("100;050;200;100");
        int[] sitters = {1, 0, 3, 2, NONE, NONE, NONE};
        for (int s = 0; s < 7; s++) {
            due("who(" + s + ")", x.who(s), sitters[s]);
        }
        x.set(0, 10);
        due("who(0)", x.who(0), 1);
        due("who(1)", x.who(1), NONE);
        due("who(7)", x.who(7), BAD);
        due("who(-1)", x.who(-1), BAD);
        due("who(least)", x.who(LEAST), BAD);
    }

    private static void has() {
        promise = 13;
        LastForemost x = with("000;013;022;031;040");
        due("has(0)", x.has(0), 20);
        due("has(1)", x.has(1), 16);
        x.love(0, 1, 7);
        x.love(1, 2, 11);
        x.love(2, 3, 13);
        due("has(1), beside 0 alone", x.has(1), 23);
        due("has(2), beside 3", x.has(2), 33);
        due("has(4), alone", x.has(4), 12);
        x.set(2, 1);
        due("has(1), one to a pew", x.has(1), 16);
        x.set(2, 3);
        due("has(1), three to a pew", x.has(1), 34);
        due("has(3), three to a pew", x.has(3), 16);
        x.set(3, 9);
        due("has(4)", x.has(4), -16);
        x.waits(4, 50);
        x.rain(4, 1);
        x.rain(53, 1);
        x.rain(54, 1);
        due("has(4), twice wet", x.has(4), -18);
        x.set(4, 9);
        due("has(4), twice soaked", x.has(4), -34);
        x.set(0, 54);
        due("has(4), outside", x.has(4), -18);
        due("has(5)", x.has(5), ANY_BAD);
        due("has(-1)", x.has(-1), ANY_BAD);
        due("has(least)", x.has(LEAST), ANY_BAD);
        LastForemost apart = with("100;300");
        apart.waits(0, 10);
        apart.waits(1, 10);
        apart.rain(15, 1);
        apart.rain(35, 1);
        due("has(0), wet once", apart.has(0), 19);
        due("has(1), wet once, the rain ahead of its minute aside", apart.has(1), 17);
    }

    private static void best() {
        promise = 14;
        LastForemost x = with("101;200");
        // Of the same minute the first number goes in first: only behind 20 is it seat 1.
        due("best(0, 0)", x.best(0, 0), 11);
        due("best(0, 1)", x.best(0, 1), 20);
        due("best(1, 0)", x.best(1, 0), 0);
        due("best(1, 1)", x.best(1, 1), 18);
        x.waits(0, 10);
        due("best(1, 1), with like minutes", x.best(1, 1), 18);
        due("person(0, 2) stays", x.person(0, 2), 20);
        x.rain(10, 1);
        x.rain(11, 1);
        x.rain(12, 1);
        due("best(0, 0) in rain", x.best(0, 0), 0);
        due("best(0, 1) in rain", x.best(0, 1), 18);
        LastForemost late = with("596");
        late.set(3, 9);
        due("best(0, 0)", late.best(0, 0), 0);
        due("best(0, 1)", late.best(0, 1), -34);
        late.wipe();
        type(late, "506");
        late.set(0, 55);
        due("best(0, 0), outside is better", late.best(0, 0), 5);
        due("best(0, 1), outside is better", late.best(0, 1), 0);
        LastForemost between = with("100;202;300");
        between.rain(25, 1);
        // Waiting till behind 2, 1 has its seat and is wet once; at once it is one seat off.
        due("best(1, 0), wet on the way", between.best(1, 0), 11);
        due("best(1, 1), wet on the way", between.best(1, 1), 19);
        due("best(2, 0)", x.best(2, 0), ANY_BAD);
        due("best(-1, 0)", x.best(-1, 0), ANY_BAD);
        due("best(0, 2)", x.best(0, 2), ANY_BAD);
        due("best(0, -1)", x.best(0, -1), ANY_BAD);
    }

    private static void rest() {
        promise = 15;
        LastForemost x = with("101;120");
        // 0 goes in at 10, 15, 20 or 25 and would be second, 1 at 12, 17, 22 or 27 and first:
        // six rows please both; at 10 and 27 neither can mend it alone.
        x.waits(0, 59);
        due("rest(NONE)", x.rest(NONE), 7);
        due("rest(0)", x.rest(0), 0);
        due("rest(1)", x.rest(1), 3);
        due("waits(0, 0) is as told", x.waits(0, 0), 59);
        x.set(5, 1);
        // 13 and 12 pleases both; from 10 to 12 and from 13 to 15 neither can mend it.
        due("rest(NONE), by single minutes", x.rest(NONE), 10);
        due("rest(0), by single minutes", x.rest(0), 0);
        due("rest(1), by single minutes", x.rest(1), 1);
        LastForemost odd = with("090;064;051");
        due("rest(0), without love", odd.rest(0) == NONE ? 1 : 0, 0);
        odd.love(0, 1, 14);
        odd.love(1, 2, 1);
        due("rest(NONE), none", odd.rest(NONE), 0);
        due("rest(0), none", odd.rest(0), NONE);
        due("rest(2), none", odd.rest(2), NONE);
        LastForemost many = with("000;000;000;000;000;000");
        due("rest(5)", many.rest(5), 0);
        due("rest(6)", many.rest(6), BAD);
        type(many, ";000");
        due("rest(NONE) of seven", many.rest(NONE), FULL);
        due("rest(6) of seven", many.rest(6), FULL);
        due("rest(7) of seven", many.rest(7), BAD);
        due("rest(-2) of seven", many.rest(-2), BAD);
        due("rest(NONE) of nobody", new LastForemost().rest(NONE), 1);
        due("rest(0) of nobody", new LastForemost().rest(0), BAD);
        restIsNotStale();
        restOfMoreAndMore();
    }

    /** The answer is kept inside: all on which it stands must drop it. */
    private static void restIsNotStale() {
        LastForemost x = with("101;120");
        due("rest(NONE)", x.rest(NONE), 7);
        x.rain(10, 1);
        x.set(4, 3);
        due("rest(NONE) in rain", x.rest(NONE), 4);
        x.rain(10, 0);
        due("rest(NONE) without", x.rest(NONE), 7);
        x.love(0, 1, 20);
        x.set(3, 0);
        due("rest(NONE) by love alone", x.rest(NONE), 16);
        x.set(3, 2);
        x.set(1, 1);
        due("rest(NONE) by law 1", x.rest(NONE), 10);
        x.type(';');
        due("rest(NONE) with a fault", x.rest(NONE), 1);
        type(x, "003");
        due("rest(2)", x.rest(2), 0);
        x.wipe();
        due("rest(2)", x.rest(2), BAD);
    }

    /** One more each time: with no care all rows are alike, 4 times as many each time. */
    private static void restOfMoreAndMore() {
        LastForemost x = new LastForemost();
        x.set(3, 0);
        int rows = 1;
        for (int n = 1; n <= 6; n++) {
            type(x, n == 1 ? "000" : ";000");
            rows *= 4;
            due("rest(NONE) of " + n, x.rest(NONE), rows);
            due("churches(0) of " + n, x.churches(0), 1 << n);
        }
        type(x, ";000");
        due("churches(0) of 7", x.churches(0), 128);
    }

    private static void change() {
        promise = 16;
        LastForemost x = with("001;010;022");
        due("change(0, 1)", x.change(0, 1), 1);
        due("change(1, 0)", x.change(1, 0), 1);
        due("change(0, 2)", x.change(0, 2), 0);
        due("seat(0) stays", x.seat(0), 0);
        due("who(0) stays", x.who(0), 0);
        x.set(3, 0);
        due("change(0, 1), no care", x.change(0, 1), 0);
        x.love(0, 1, 5);
        due("change(0, 1), in one pew", x.change(0, 1), 0);
        due("change(0, 2), parted from love", x.change(0, 2), 0);
        x.set(3, 2);
        x.set(0, 2);
        due("change(0, 2), one outside", x.change(0, 2), NOT);
        due("change(2, 0), one outside", x.change(2, 0), NOT);
        due("change(2, 2)", x.change(2, 2), BAD);
        due("change(0, 0)", x.change(0, 0), BAD);
        due("change(0, 3)", x.change(0, 3), BAD);
        due("change(3, 0)", x.change(3, 0), BAD);
        due("change(-1, 0)", x.change(-1, 0), BAD);
        due("change(0, -1)", x.change(0, -1), BAD);
        LastForemost two = with("001;010");
        two.love(0, 1, 5);
        due("change(0, 1), still together", two.change(0, 1), 1);
        LastForemost pews = with("000;011;022;033");
        pews.set(3, 0);
        pews.love(0, 2, 5);
        pews.love(1, 3, 5);
        // 1 comes beside 3 and 2 beside 0: so both have more.
        due("change(1, 2) for love", pews.change(1, 2), 1);
        due("change(0, 3) for love", pews.change(0, 3), 1);
        due("change(0, 1) in a pew", pews.change(0, 1), 0);
        changeInRain();
        changeRoundAbout();
    }

    /** All else is as it is: the rain of neither bears on the change. */
    private static void changeInRain() {
        String[] texts = {"101;300", "100;300", "101;301", "100;301"};
        int[] want = {1, 0, 0, 0};
        for (int i = 0; i < texts.length; i++) {
            LastForemost x = with(texts[i]);
            x.set(4, 9);
            x.rain(5, 1);
            x.rain(20, 1);
            due("change(0, 1) in rain, " + texts[i], x.change(0, 1), want[i]);
            due("change(1, 0) in rain, " + texts[i], x.change(1, 0), want[i]);
            due("changes() in rain, " + texts[i], x.changes(), want[i]);
        }
    }

    /** Who sits on the seat of one's number is another one than whose number is one's seat. */
    private static void changeRoundAbout() {
        String[] texts = {"200;002;101", "201;000;102", "202;001;100", "200;001;102"};
        int[][] want = {{1, 0, 0}, {0, 1, 0}, {0, 0, 1}, {0, 1, 0}};
        for (int i = 0; i < texts.length; i++) {
            LastForemost x = with(texts[i]);
            x.set(2, 1);
            due("seat(0) of " + texts[i], x.seat(0), 2);
            due("seat(1) of " + texts[i], x.seat(1), 0);
            due("seat(2) of " + texts[i], x.seat(2), 1);
            due("change(0, 1) of " + texts[i], x.change(0, 1), want[i][0]);
            due("change(0, 2) of " + texts[i], x.change(0, 2), want[i][1]);
            due("change(1, 2) of " + texts[i], x.change(1, 2), want[i][2]);
            due("changes() of " + texts[i], x.changes(), want[i][0] + want[i][1] + want[i][2]);
        }
    }

    private static void changes() {
        promise = 17;
        due("changes() of nobody", new LastForemost().changes(), 0);
        due("changes() of one", with("006").changes(), 0);
        LastForemost x = with("003;012;021;030");
        due("changes()", x.changes(), 2);
        x.set(0, 3);
        due("changes(), one outside", x.changes(), 1);
        x.set(0, 60);
        x.set(1, 1);
        due("changes() by law 1", x.changes(), 0);
        due("seat(0)", x.seat(0), 3);
        LastForemost fewer = with("000;010;020;030");
        fewer.love(3, 4, 20);
        due("changes(), love of one who is not there", fewer.changes(), 0);
        type(fewer, ";040");
        due("changes(), love of one in another pew", fewer.changes(), 0);
        fewer.wipe();
        type(fewer, "000;010;020;030");
        due("changes(), love of one who is gone", fewer.changes(), 0);
    }

    private static void churches() {
        promise = 18;
        due("churches(0) of nobody", new LastForemost().churches(0), 1);
        due("churches(1) of nobody", new LastForemost().churches(1), 0);
        LastForemost x = with("000;010");
        // Alone each has its seat; together by law 0 the later is off, by law 1 the earlier.
        due("churches(0)", x.churches(0), 2);
        due("churches(1)", x.churches(1), 1);
        x.set(1, 1);
        due("churches(0), LAW is aside", x.churches(0), 2);
        x.love(0, 1, 20);
        due("churches(0) by love", x.churches(0), 2);
        due("churches(1) by love", x.churches(1), 0);
        x.set(0, 0);
        due("churches(0), all outside", x.churches(0), 4);
        due("churches(1), all outside", x.churches(1), 0);
        LastForemost none = with("150;020;071");
        none.love(0, 1, 20);
        none.love(0, 2, 16);
        none.love(1, 2, 4);
        due("churches(0), none", none.churches(0), 0);
        due("churches(1), none", none.churches(1), NONE);
        none.waits(1, 59);
        int waited = none.churches(0);
        none.waits(1, 0);
        none.waits(0, 59);
        due("churches(0) is not stale", none.churches(0), 0);
        due("churches(0) by waiting", waited, 2);
        none.waits(0, 0);
        none.sheet(0, 0, 2);
        none.lay(0, 0, 1, 59);
        due("churches(0) ahead of reading", none.churches(0), 0);
        due("read(0)", none.read(0), 2);
        due("churches(0) by reading", none.churches(0), 2);
        due("churches(1) by reading", none.churches(1) == NONE ? 1 : 0, 0);
        none.waits(1, 0);
        due("churches(1), none again", none.churches(1), NONE);
        due("churches(2)", x.churches(2), BAD);
        due("churches(-1)", x.churches(-1), BAD);
        churchesHaveLawsOfTheirOwn();
    }

    /** LAW as it is set bears on neither of the two churches. */
    private static void churchesHaveLawsOfTheirOwn() {
        LastForemost onlyIn0 = with("000;011");
        onlyIn0.love(0, 1, 1);
        LastForemost onlyIn1 = with("001;010");
        onlyIn1.love(0, 1, 1);
        for (int law = 0; law <= 1; law++) {
            onlyIn0.set(1, law);
            onlyIn1.set(1, law);
            due("churches(0), well by law 0, LAW " + law, onlyIn0.churches(0), 1);
            due("churches(1), well by law 0, LAW " + law, onlyIn0.churches(1), 0);
            due("churches(0), well by law 1, LAW " + law, onlyIn1.churches(0), 1);
            due("churches(1), well by law 1, LAW " + law, onlyIn1.churches(1), 3);
        }
    }

    private static void sat() {
        promise = 19;
        LastForemost x = new LastForemost();
        due("sat(0, 0)", x.sat(0, 0), 1);
        due("sat(6, 6)", x.sat(6, 6), 2);
        due("sat(7, 0)", x.sat(7, 0), BAD);
        due("sat(-1, 0)", x.sat(-1, 0), BAD);
        due("sat(0, 7)", x.sat(0, 7), BAD);
        due("sat(0, -1)", x.sat(0, -1), BAD);
        due("front(0, 1)", x.front(0, 1), 3);
        for (int i = 4; i <= 8; i++) {
            due("sat(0, 0) again", x.sat(0, 0), i);
        }
        due("sat(0, 0)", x.sat(0, 0), FULL);
        due("sat(7, 0)", x.sat(7, 0), BAD);
        due("count(4)", x.count(4), 8);
    }

    private static void front() {
        promise = 20;
        LastForemost x = new LastForemost();
        due("front(0, 6)", x.front(0, 6), 1);
        due("front(6, 0)", x.front(6, 0), 2);
        due("front(3, 3)", x.front(3, 3), BAD);
        due("front(7, 0)", x.front(7, 0), BAD);
        due("front(0, 7)", x.front(0, 7), BAD);
        due("front(-1, 0)", x.front(-1, 0), BAD);
        due("front(0, -1)", x.front(0, -1), BAD);
        for (int i = 3; i <= 8; i++) {
            due("front(0, 1)", x.front(0, 1), i);
        }
        due("front(0, 1)", x.front(0, 1), FULL);
        due("front(0, 0)", x.front(0, 0), BAD);
    }

    private static void forget() {
        promise = 21;
        LastForemost x = with("000;000");
        due("forget()", x.forget(), 0);
        x.sat(0, 1);
        x.front(1, 0);
        due("came(NONE)", x.came(NONE), 0);
        due("forget()", x.forget(), 2);
        due("forget()", x.forget(), 0);
        due("came(NONE)", x.came(NONE), 2);
        due("sat(0, 1)", x.sat(0, 1), 1);
    }

    private static void came() {
        promise = 22;
        LastForemost x = with("000;100;200");
        x.set(0, 0);
        due("came(NONE), the bell is aside", x.came(NONE), 6);
        due("came(0)", x.came(0), 7);
        x.front(0, 1);
        due("came(NONE)", x.came(NONE), 3);
        due("came(0), nearer the front", x.came(0), 6);
        due("came(1)", x.came(1), 3);
        due("came(2)", x.came(2), 7);
        x.set(1, 1);
        due("came(0) by law 1", x.came(0), 3);
        due("came(1) by law 1", x.came(1), 6);
        x.sat(2, 0);
        due("came(NONE)", x.came(NONE), 1);
        due("came(2) by law 1", x.came(2), 4);
        x.set(1, 0);
        due("came(2) by law 0", x.came(2), 1);
        due("came(3)", x.came(3), BAD);
        due("came(-2)", x.came(-2), BAD);
        type(x, ";300");
        due("came(NONE) of four", x.came(NONE), 3);
        due("came(3)", x.came(3), 14);
        x.wipe();
        due("came(NONE), they are not there", x.came(NONE), 0);
        x.forget();
        due("came(NONE) of nobody", x.came(NONE), 1);
        due("came(0) of nobody", x.came(0), BAD);
        type(x, "000;000");
        x.sat(0, 2);
        due("came(NONE), no such seat", x.came(NONE), 0);
        due("came(0), no such seat", x.came(0), 0);
        x.set(1, 1);
        due("came(NONE), no such seat by law 1", x.came(NONE), 0);
        x.forget();
        x.front(0, 2);
        due("came(NONE), 2 is not there", x.came(NONE), 0);
        for (int law = 0; law <= 1; law++) {
            x.set(1, law);
            x.forget();
            x.front(2, 0);
            due("came(NONE), 2 is not there, law " + law, x.came(NONE), 0);
            x.forget();
            x.sat(2, 0);
            due("came(NONE), 2 is not there, law " + law, x.came(NONE), 0);
            x.forget();
            x.sat(0, 1);
            due("came(NONE), law " + law, x.came(NONE), 1);
            due("came(0), law " + law, x.came(0), law == 0 ? 2 : 1);
            cameBySeveralFactsOfOne(law);
            cameOfFewer(law);
        }
    }

    private static void cameOfFewer(int law) {
        LastForemost x = with("000;000;000;000;000;000;000");
        x.set(1, law);
        due("came(NONE) of seven, law " + law, x.came(NONE), 5040);
        x.wipe();
        type(x, "000;000;000");
        x.sat(2, 0);
        due("came(NONE) of three, law " + law, x.came(NONE), 2);
        due("came(0) of three, law " + law, x.came(0), law == 0 ? 6 : 3);
        due("came(2) of three, law " + law, x.came(2), law == 0 ? 1 : 4);
        due("sure() of three, law " + law, x.sure(), 2);
    }

    private static void cameBySeveralFactsOfOne(int law) {
        LastForemost x = with("000;000;000;000");
        x.set(1, law);
        x.front(0, 1);
        x.front(0, 2);
        due("came(NONE), 0 ahead of two, law " + law, x.came(NONE), 8);
        due("came(0), 0 ahead of two, law " + law, x.came(0), law == 0 ? 12 : 3);
        x.front(0, 3);
        due("came(NONE), 0 ahead of all, law " + law, x.came(NONE), 6);
        due("came(0), 0 ahead of all, law " + law, x.came(0), law == 0 ? 8 : 1);
        due("sure(), 0 ahead of all, law " + law, x.sure(), 3);
        x.forget();
        x.front(1, 0);
        x.front(2, 0);
        due("came(NONE), 0 behind two, law " + law, x.came(NONE), 8);
        due("came(0), 0 behind two, law " + law, x.came(0), law == 0 ? 3 : 12);
        x.front(3, 0);
        due("came(NONE), 0 behind all, law " + law, x.came(NONE), 6);
        due("came(0), 0 behind all, law " + law, x.came(0), law == 0 ? 1 : 8);
        due("sure(), 0 behind all, law " + law, x.sure(), 3);
        x.forget();
        x.sat(0, 1);
        x.front(0, 3);
        x.sat(0, 1);
        due("came(NONE), 3 is behind 0, law " + law, x.came(NONE), 2);
        due("came(3), 3 is behind 0, law " + law, x.came(3), law == 0 ? 1 : 8);
        due("sure(), 3 is behind 0, law " + law, x.sure(), 5);
    }

    private static void sure() {
        promise = 23;
        LastForemost x = with("000;000;000;000");
        due("sure()", x.sure(), 0);
        x.front(0, 1);
        due("sure()", x.sure(), 1);
        x.front(1, 2);
        due("sure(), by a third", x.sure(), 3);
        x.sat(3, 1);
        due("sure(), all", x.sure(), 6);
        due("came(NONE)", x.came(NONE), 1);
        x.sat(3, 2);
        due("sure(), none", x.sure(), 0);
        x.forget();
        x.sat(0, 1);
        x.sat(1, 2);
        due("sure()", x.sure(), 1);
        due("sure() of nobody", new LastForemost().sure(), 0);
        due("sure() of one", with("000").sure(), 0);
    }

    private static void fair() {
        promise = 24;
        LastForemost x = with("593;000");
        // Seats 0 and 1, the wish 3: 20 less 6 and 20 less 4.
        due("fair(0, 0)", x.fair(0, 0), 15);
        due("fair(0, 1)", x.fair(0, 1), 1);
        due("fair(1, 0)", x.fair(1, 0), 19);
        x.set(0, 0);
        x.rain(0, 1);
        x.waits(1, 59);
        due("fair(1, 0), all sit and are dry", x.fair(1, 0), 19);
        x.set(3, 9);
        due("fair(0, 0)", x.fair(0, 0), -5);
        due("fair(0, 1)", x.fair(0, 1), 2);
        x.set(3, 8);
        due("fair(0, 0), 0 by 1", x.fair(0, 0), 0);
        due("fair(0, 1), 0 by 1", x.fair(0, 1), 1);
        LastForemost three = with("000;000;000");
        three.set(3, 0);
        three.love(0, 1, 20);
        three.love(1, 2, 1);
        // Each pair of three is in the pew of two in one order out of three.
        due("fair(0, 0)", three.fair(0, 0), 80);
        due("fair(0, 1)", three.fair(0, 1), 3);
        due("fair(1, 0)", three.fair(1, 0), 27);
        due("fair(1, 1)", three.fair(1, 1), 1);
        three.set(2, 4);
        due("fair(1, 0), all in one pew", three.fair(1, 0), 41);
        three.set(2, 1);
        due("fair(1, 0), each in one pew", three.fair(1, 0), 20);
        LastForemost pair = with("000;000");
        pair.love(0, 1, 6);
        // Seats 0 and 1, the wish 0: 19 in the mean, and the other always in the same pew.
        due("fair(0, 0) of two", pair.fair(0, 0), 25);
        due("fair(0, 1) of two", pair.fair(0, 1), 1);
        pair.love(0, 2, 20);
        due("fair(0, 0), love of one who is not there", pair.fair(0, 0), 25);
        type(pair, ";000");
        // Of three seats 18 in the mean; each other one beside 0 in two orders of six.
        due("fair(0, 0), love of one who is there", pair.fair(0, 0), 80);
        due("fair(0, 1), love of one who is there", pair.fair(0, 1), 3);
        due("fair(0, 0) of one", with("005").fair(0, 0), 10);
        due("fair(0, 1) of one", with("005").fair(0, 1), 1);
        due("fair(3, 0)", three.fair(3, 0), LONG_BAD);
        due("fair(-1, 0)", three.fair(-1, 0), LONG_BAD);
        due("fair(0, 2)", three.fair(0, 2), LONG_BAD);
        due("fair(0, -1)", three.fair(0, -1), LONG_BAD);
    }

    private static void lot() {
        promise = 25;
        LastForemost x = with("000;000;000;000;000;000;000");
        for (int seed : new int[] {0, 1, -1, 7, LEAST, MOST, 123456789}) {
            int had = 0;
            for (int p = 0; p < 7; p++) {
                had |= 1 << x.lot(seed, p);
            }
            due("seats had by seed " + seed, had, 127);
        }
        // 0 becomes 12345, the upper bits of which are 0: seat 0. Then -740551042: 54236,
        // modulo 6 it is 2, and of the seats 1 to 6 that is seat 3.
        due("lot(0, 0)", x.lot(0, 0), 0);
        due("lot(0, 1)", x.lot(0, 1), 3);
        // -1 becomes -1103502900: the upper bits are 48697, of 7 left 5.
        due("lot(-1, 0)", x.lot(-1, 0), 5);
        due("lot(0, 7)", x.lot(0, 7), BAD);
        due("lot(0, -1)", x.lot(0, -1), BAD);
        due("lot(5, 0) of one", with("000").lot(5, 0), 0);
        due("lot(0, 0) of nobody", new LastForemost().lot(0, 0), BAD);
    }

    private static void sunday() {
        promise = 26;
        LastForemost x = new LastForemost();
        due("sunday(6, 0)", x.sunday(6, 0), 1);
        due("sunday(6, 1)", x.sunday(6, 1), 2);
        due("sunday(0, 1)", x.sunday(0, 1), 1);
        due("sunday(7, 0)", x.sunday(7, 0), BAD);
        due("sunday(-1, 0)", x.sunday(-1, 0), BAD);
        due("sunday(0, 2)", x.sunday(0, 2), BAD);
        due("sunday(0, -1)", x.sunday(0, -1), BAD);
        for (int i = 1; i <= 57; i++) {
            due("sunday(3, 0)", x.sunday(3, 0), i);
        }
        due("count(5)", x.count(5), 60);
        due("sunday(1, 0)", x.sunday(1, 0), FULL);
        due("sunday(7, 0)", x.sunday(7, 0), BAD);
        due("count(5)", x.count(5), 60);
        due("late(1, 1)", x.late(1, 1), 2);
    }

    private static void late() {
        promise = 27;
        LastForemost x = new LastForemost();
        due("late(6, 0)", x.late(6, 0), 1);
        due("late(6, 1)", x.late(6, 1), 2);
        x.sunday(6, 1);
        x.sunday(6, 0);
        due("late(6, 0), in lowest terms", x.late(6, 0), 1);
        due("late(6, 1), in lowest terms", x.late(6, 1), 2);
        x.sunday(6, 1);
        due("late(6, 0)", x.late(6, 0), 3);
        due("late(6, 1)", x.late(6, 1), 5);
        due("late(5, 1)", x.late(5, 1), 2);
        due("late(7, 0)", x.late(7, 0), LONG_BAD);
        due("late(-1, 0)", x.late(-1, 0), LONG_BAD);
        due("late(0, 2)", x.late(0, 2), LONG_BAD);
        due("late(0, -1)", x.late(0, -1), LONG_BAD);
    }

    private static void allLate() {
        promise = 28;
        LastForemost x = new LastForemost();
        x.sunday(0, 1);
        x.sunday(1, 0);
        due("allLate(0) of nobody", x.allLate(0), 1);
        due("allLate(1) of nobody", x.allLate(1), 1);
        type(x, "000");
        due("allLate(0)", x.allLate(0), 2);
        due("allLate(1)", x.allLate(1), 3);
        type(x, ";000;000");
        due("allLate(0), in lowest terms", x.allLate(0), 1);
        due("allLate(1), in lowest terms", x.allLate(1), 9);
        due("allLate(2)", x.allLate(2), LONG_BAD);
        due("allLate(-1)", x.allLate(-1), LONG_BAD);
    }

    private static void sheet() {
        promise = 29;
        LastForemost x = new LastForemost();
        due("sheet(0, 0, 60)", x.sheet(0, 0, 60), 60);
        due("get(0, 0, 59)", x.get(0, 0, 59), 0);
        x.lay(0, 0, 59, 5);
        x.lay(0, 0, 0, 5);
        due("sheet(0, 0, 60) anew", x.sheet(0, 0, 60), 60);
        due("get(0, 0, 0) anew", x.get(0, 0, 0), 0);
        due("get(0, 0, 59) anew", x.get(0, 0, 59), 0);
        due("sheet(3, 2, 0)", x.sheet(3, 2, 0), 0);
        due("sheet(4, 0, 1)", x.sheet(4, 0, 1), BAD);
        due("sheet(-1, 0, 1)", x.sheet(-1, 0, 1), BAD);
        due("sheet(0, 3, 1)", x.sheet(0, 3, 1), BAD);
        due("sheet(0, -1, 1)", x.sheet(0, -1, 1), BAD);
        due("sheet(0, 0, 61)", x.sheet(0, 0, 61), BAD);
        due("sheet(4, 0, -1)", x.sheet(4, 0, -1), BAD);
        due("count(8)", x.count(8), 0);
        due("sheet(0, 1, -1)", x.sheet(0, 1, -1), SIZE);
        due("sheet(0, 1, least)", x.sheet(0, 1, LEAST), SIZE);
        due("count(8)", x.count(8), 5);
        due("lose(0), it is as it was", x.lose(0), 60);
    }

    private static void lose() {
        promise = 30;
        LastForemost x = new LastForemost();
        due("lose(4)", x.lose(4), BAD);
        due("lose(-1)", x.lose(-1), BAD);
        due("count(8)", x.count(8), 0);
        due("lose(0)", x.lose(0), NULL);
        due("count(8)", x.count(8), 1);
        x.sheet(0, 1, 7);
        x.sheet(1, 1, 0);
        due("lose(0)", x.lose(0), 7);
        due("lose(0)", x.lose(0), NULL);
        due("lose(1)", x.lose(1), 0);
        due("lose(1)", x.lose(1), NULL);
    }

    private static void lay() {
        promise = 31;
        LastForemost x = new LastForemost();
        due("lay(0, 0, 0, 0)", x.lay(0, 0, 0, 0), NULL);
        x.sheet(0, 0, 2);
        x.sheet(1, 1, 2);
        x.sheet(2, 2, 2);
        int[] cut = {-128, -32640, 0x12348080};
        for (int form = 0; form < 3; form++) {
            due("lay in form " + form, x.lay(form, form, 1, 0x12348080), 1);
            due("get in form " + form, x.get(form, form, 1), cut[form]);
            due("get beside in form " + form, x.get(form, form, 0), 0);
        }
        due("lay(0, 1, 5, 0)", x.lay(0, 1, 5, 0), CAST);
        due("count(8)", x.count(8), 3);
        due("lay(0, 0, 2, 0)", x.lay(0, 0, 2, 0), INDEX);
        due("count(8)", x.count(8), 2);
        due("lay(0, 0, -1, 0)", x.lay(0, 0, -1, 0), INDEX);
        due("lay(0, 0, least, 0)", x.lay(0, 0, LEAST, 0), INDEX);
        due("lay(3, 1, -1, 0)", x.lay(3, 1, -1, 0), NULL);
        due("count(8)", x.count(8), 1);
        due("lay(4, 0, 0, 0)", x.lay(4, 0, 0, 0), BAD);
        due("lay(-1, 0, 0, 0)", x.lay(-1, 0, 0, 0), BAD);
        due("lay(3, 3, 0, 0)", x.lay(3, 3, 0, 0), BAD);
        due("lay(0, -1, 0, 0)", x.lay(0, -1, 0, 0), BAD);
    }

    private static void get() {
        promise = 32;
        LastForemost x = new LastForemost();
        x.sheet(0, 2, 1);
        x.lay(0, 2, 0, LEAST);
        due("get(0, 2, 0)", x.get(0, 2, 0), LEAST);
        due("get(4, 0, 0)", x.get(4, 0, 0), LEAST);
        due("get(-1, 0, 0)", x.get(-1, 0, 0), LEAST);
        due("get(1, 3, 0)", x.get(1, 3, 0), LEAST);
        due("get(1, -1, 0)", x.get(1, -1, 0), LEAST);
        due("count(8)", x.count(8), 0);
        due("get(1, 2, 0)", x.get(1, 2, 0), LEAST);
        due("count(8)", x.count(8), 1);
        due("get(0, 1, 7)", x.get(0, 1, 7), LEAST);
        due("count(8)", x.count(8), 3);
        due("get(0, 2, 1)", x.get(0, 2, 1), LEAST);
        due("count(8)", x.count(8), 2);
        x.lay(0, 2, 0, -77);
        due("get(0, 2, 0)", x.get(0, 2, 0), -77);
        due("get(0, 2, -1)", x.get(0, 2, -1), LEAST);
    }

    private static void copy() {
        promise = 33;
        LastForemost x = new LastForemost();
        x.sheet(0, 1, 5);
        for (int i = 0; i < 5; i++) {
            x.lay(0, 1, i, 10 + i);
        }
        due("copy(0, 0, 0, 1, 4)", x.copy(0, 0, 0, 1, 4), 1);
        int[] after = {10, 10, 11, 12, 13};
        for (int i = 0; i < 5; i++) {
            due("get(0, 1, " + i + ")", x.get(0, 1, i), after[i]);
        }
        due("copy(0, 2, 0, 0, 3)", x.copy(0, 2, 0, 0, 3), 1);
        due("get(0, 1, 0)", x.get(0, 1, 0), 11);
        due("get(0, 1, 2)", x.get(0, 1, 2), 13);
        x.sheet(1, 1, 2);
        due("copy(0, 3, 1, 0, 2)", x.copy(0, 3, 1, 0, 2), 1);
        due("get(1, 1, 1)", x.get(1, 1, 1), 13);
        due("copy(0, 5, 1, 2, 0)", x.copy(0, 5, 1, 2, 0), 1);
        due("count(8)", x.count(8), 0);
        int[][] beyond = {{0, -1, 1, 0, 1}, {0, 0, 1, -1, 1}, {0, 0, 1, 0, -1}, {0, 4, 1, 0, 2},
            {0, 0, 1, 1, 2}, {0, 6, 1, 0, 0}, {0, 0, 1, 3, 0}, {0, 1, 1, 1, MOST},
            {0, MOST, 1, 0, MOST}, {0, 0, 1, MOST, 1}, {0, LEAST, 1, LEAST, LEAST}};
        for (int[] c : beyond) {
            due("copy beyond", x.copy(c[0], c[1], c[2], c[3], c[4]), INDEX);
        }
        due("count(8)", x.count(8), 2);
        x.sheet(2, 0, 5);
        due("copy(0, 9, 2, 9, 9)", x.copy(0, 9, 2, 9, 9), STORE);
        due("count(8)", x.count(8), 4);
        due("copy(0, 0, 3, 0, 1)", x.copy(0, 0, 3, 0, 1), NULL);
        due("copy(3, 0, 2, 0, 1)", x.copy(3, 0, 2, 0, 1), NULL);
        due("copy(4, 0, 3, 0, 1)", x.copy(4, 0, 3, 0, 1), BAD);
        due("copy(3, 0, -1, 0, 1)", x.copy(3, 0, -1, 0, 1), BAD);
        due("copy(-1, 0, 0, 0, 1)", x.copy(-1, 0, 0, 0, 1), BAD);
        due("copy(0, 0, 4, 0, 1)", x.copy(0, 0, 4, 0, 1), BAD);
        due("count(8)", x.count(8), 1);
        due("get(1, 1, 1) stays", x.get(1, 1, 1), 13);
    }

    private static void write() {
        promise = 34;
        LastForemost x = with("100;050;200");
        x.set(0, 20);
        for (int form = 0; form < 3; form++) {
            x.sheet(form, form, 5);
            x.lay(form, form, 3, 9);
            due("write(" + form + ")", x.write(form), 3);
            int[] items = {1, 0, NONE, 9, 0};
            for (int i = 0; i < 5; i++) {
                due("get(" + form + ", " + form + ", " + i + ")", x.get(form, form, i), items[i]);
            }
        }
        x.sheet(0, 0, 2);
        due("write(0), two items", x.write(0), 2);
        x.sheet(0, 0, 0);
        due("write(0), no items", x.write(0), 0);
        x.wipe();
        due("write(1) of nobody", x.write(1), 0);
        due("get(1, 1, 0) stays", x.get(1, 1, 0), 1);
        due("write(4)", x.write(4), BAD);
        due("write(-1)", x.write(-1), BAD);
        due("count(8)", x.count(8), 0);
        due("write(3)", x.write(3), NULL);
        due("count(8)", x.count(8), 1);
    }

    private static void count() {
        promise = 35;
        LastForemost x = with("100;050;200;300;590");
        x.set(0, 30);
        x.rain(3, 1);
        x.sat(0, 0);
        x.front(0, 1);
        x.sunday(0, 0);
        x.lose(0);
        int[] counts = {5, 19, 2, 1, 2, 1, 2, 30, 1};
        for (int what = 0; what < counts.length; what++) {
            due("count(" + what + ")", x.count(what), counts[what]);
        }
        x.set(0, 60);
        due("count(6), all in", x.count(6), 3);
        x.set(0, 30);
        int[] pews = {3, 2, 1, 1};
        for (int wide = 1; wide <= 4; wide++) {
            x.set(2, wide);
            due("count(6), wide " + wide, x.count(6), pews[wide - 1]);
        }
        due("count(9)", x.count(9), BAD);
        due("count(-1)", x.count(-1), BAD);
        due("count(least)", x.count(LEAST), BAD);
    }

    private static void digest() {
        promise = 36;
        // Nobody: 8 counts (the last is BELL), the fault, 7 seats, then 1, 0, 1, 0, 1, 0, 1, 1.
        long h = 17;
        long[] nobody = {0, 0, 0, 0, 0, 0, 0, 60, -1, -1, -1, -1, -1, -1, -1, -1, 1, 0, 1, 0, 1, 0,
            1, 1};
        for (long each : nobody) {
            h = 31 * h + each;
        }
        LastForemost x = new LastForemost();
        due("digest() of nobody", x.digest(), h);
        due("digest() again", x.digest(), h);
        x.lose(0);
        due("digest(), findings are no part", x.digest(), h);
        digestOfSeven();
    }

    /** Of seven REST is refused, and the refusal is told as it is. */
    private static void digestOfSeven() {
        LastForemost x = with("104;053;202;101;300;596;005");
        x.love(0, 1, 9);
        x.sat(0, 2);
        x.front(1, 2);
        x.sunday(3, 1);
        x.rain(59, 1);
        x.waits(2, 44);
        long h = 17;
        for (int what = 0; what <= 7; what++) {
            h = 31 * h + x.count(what);
        }
        h = 31 * h - 1;
        for (int p = 0; p < 7; p++) {
            long[] each = {x.person(p, 0), x.person(p, 1), x.person(p, 2), x.person(p, 3), x.seat(p),
                x.has(p), x.best(p, 0), x.best(p, 1), FULL, x.came(p), x.fair(p, 0), x.fair(p, 1),
                x.late(p, 0), x.late(p, 1), x.lot(7, p)};
            for (long one : each) {
                h = 31 * h + one;
            }
        }
        for (int seat = 0; seat < 7; seat++) {
            h = 31 * h + x.who(seat);
        }
        long[] all = {FULL, x.changes(), x.churches(0), x.churches(1), x.came(NONE), x.sure(),
            x.allLate(0), x.allLate(1)};
        for (long one : all) {
            h = 31 * h + one;
        }
        due("digest() of seven", x.digest(), h);
    }
}

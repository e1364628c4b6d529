import java.util.ArrayList;
import java.util.List;

/** Objects in which there is much that a call could spoil, and all that can be asked of one. */
final class States {
    private States() {
    }

    /** Six people, some of each thing; sheet 3 is lost; the latest finding is 5. */
    static LastForemost rich() {
        LastForemost x = new LastForemost();
        Edges.type(x, "104;053;202;101;300;596");
        x.sat(0, 3);
        x.front(4, 5);
        x.front(1, 2);
        for (int i = 0; i < 5; i++) {
            x.sunday(i % 3, i % 2);
        }
        more(x);
        x.sheet(1, 1, 5);
        x.sheet(2, 2, 8);
        fill(x, 5, 8);
        x.sheet(0, 0, -1);
        return x;
    }

    /** The text, the facts and the Sundays are full; sheet 3 is lost; the latest finding is 1. */
    static LastForemost full() {
        LastForemost x = new LastForemost();
        Edges.type(x, "104;053;202;101;300;596;004;123;234;456;");
        for (int i = 0; i < 8; i++) {
            x.sat(i % 7, i % 5);
        }
        for (int i = 0; i < 60; i++) {
            x.sunday(i % 7, i % 2);
        }
        more(x);
        x.sheet(1, 1, 0);
        x.sheet(2, 2, 60);
        fill(x, 0, 8);
        x.lose(3);
        return x;
    }

    /** One too many for REST; the latest finding is 5. */
    static LastForemost seven() {
        LastForemost x = rich();
        Edges.type(x, ";004");
        return x;
    }

    private static void more(LastForemost x) {
        for (int p = 0; p < 7; p++) {
            x.waits(p, 3 * p + 1);
        }
        for (int minute = 5; minute < 60; minute += 9) {
            x.rain(minute, 1);
        }
        x.set(0, 57);
        x.set(1, 1);
        x.set(2, 3);
        x.set(3, 3);
        x.set(4, 2);
        x.set(5, 4);
        x.love(0, 1, 7);
        x.love(2, 4, 20);
        x.love(5, 6, 3);
    }

    private static void fill(LastForemost x, int shorts, int ints) {
        x.sheet(0, 0, 4);
        for (int i = 0; i < 4; i++) {
            x.lay(0, 0, i, 40 + i);
        }
        for (int i = 0; i < shorts; i++) {
            x.lay(1, 1, i, 300 + i);
        }
        for (int i = 0; i < ints; i++) {
            x.lay(2, 2, i, 70000 + i);
        }
    }

    /** All that can be asked but count() 8; the object is spent by it, some 370 calls. */
    static List<String> all(LastForemost x) {
        List<String> answers = new ArrayList<>();
        asks(x, answers);
        asksOfEach(x, answers);
        sheets(x, answers);
        givesBack(x, answers);
        return answers;
    }

    private static void add(List<String> answers, String call, long answer) {
        answers.add(call + " = " + answer);
    }

    private static void asks(LastForemost x, List<String> answers) {
        for (int what = 0; what <= 7; what++) {
            add(answers, "count(" + what + ")", x.count(what));
        }
        add(answers, "fault()", x.fault());
        for (int seat = 0; seat < 7; seat++) {
            add(answers, "who(" + seat + ")", x.who(seat));
        }
        add(answers, "rest(NONE)", x.rest(-1));
        add(answers, "changes()", x.changes());
        add(answers, "churches(0)", x.churches(0));
        add(answers, "churches(1)", x.churches(1));
        add(answers, "came(NONE)", x.came(-1));
        add(answers, "sure()", x.sure());
        add(answers, "allLate(0)", x.allLate(0));
        add(answers, "allLate(1)", x.allLate(1));
        add(answers, "digest()", x.digest());
    }

    private static void asksOfEach(LastForemost x, List<String> answers) {
        for (int p = 0; p < 7; p++) {
            for (int what = 0; what <= 3; what++) {
                add(answers, "person(" + p + ", " + what + ")", x.person(p, what));
            }
            for (int what = 0; what <= 1; what++) {
                add(answers, "best(" + p + ", " + what + ")", x.best(p, what));
                add(answers, "fair(" + p + ", " + what + ")", x.fair(p, what));
                add(answers, "late(" + p + ", " + what + ")", x.late(p, what));
            }
            add(answers, "seat(" + p + ")", x.seat(p));
            add(answers, "has(" + p + ")", x.has(p));
            add(answers, "rest(" + p + ")", x.rest(p));
            add(answers, "came(" + p + ")", x.came(p));
            add(answers, "lot(7, " + p + ")", x.lot(7, p));
            for (int q = 0; q < p; q++) {
                add(answers, "change(" + p + ", " + q + ")", x.change(p, q));
            }
        }
    }

    private static void sheets(LastForemost x, List<String> answers) {
        for (int s = 0; s < 4; s++) {
            for (int form = 0; form < 3; form++) {
                for (int i = 0; i < 8; i++) {
                    add(answers, "get(" + s + ", " + form + ", " + i + ")", x.get(s, form, i));
                }
            }
            add(answers, "lose(" + s + ")", x.lose(s));
        }
    }

    /** What tells itself only when it is set anew. */
    private static void givesBack(LastForemost x, List<String> answers) {
        for (int p = 0; p < 7; p++) {
            add(answers, "waits(" + p + ", 0)", x.waits(p, 0));
            for (int q = 0; q < p; q++) {
                add(answers, "love(" + p + ", " + q + ", 0)", x.love(p, q, 0));
            }
        }
        for (int minute = 0; minute < 60; minute++) {
            add(answers, "rain(" + minute + ", 0)", x.rain(minute, 0));
        }
        for (int what = 0; what < 6; what++) {
            add(answers, "set(" + what + ", 1)", x.set(what, 1));
        }
        add(answers, "forget()", x.forget());
        add(answers, "wipe()", x.wipe());
    }
}

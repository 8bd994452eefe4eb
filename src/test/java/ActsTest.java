/** Promises 42 to 51: ACTS, UNDO, IMAGES, and what is told. */
public final class ActsTest {
    private static void asks(Due due) {
        LastAsked x = due.city(NowTest.BASE, 5);
        due.answered(x, "ask(0, 1)", x.ask(0, 1), 2);
        due.is("size(0)", x.size(0), 11);
        due.is("register(0, 1)", x.register(0, 1), 11);
        due.is("heir(1)", x.heir(1), 0);
        due.is("person(0, 1)", x.person(0, 1), 12);
        due.is("person(1, 1)", x.person(1, 1), 18);
        due.is("size(4): as told", x.size(4), 3);
        due.answered(x, "ask(0, 3)", x.ask(0, 3), 2);
        due.answered(x, "ask(0, 3)", x.ask(0, 3), 2);
        due.answered(x, "ask(0, 3): all he has", x.ask(0, 3), 1);
        due.answered(x, "ask(0, 3): nothing", x.ask(0, 3), 0);
        due.is("size(0)", x.size(0), 15);
        due.refused(x, "ask(0, 0)", x.ask(0, 0), 1);
        due.refused(x, "ask(5, 0)", x.ask(5, 0), 1);
        due.refused(x, "ask(0, -1)", x.ask(0, -1), 1);
        due.refused(x, "ask(4, 0): a doctor", x.ask(4, 0), 6);
        due.refused(x, "ask(0, 2): shut", x.ask(0, 2), 6);
        due.refused(x, "ask(1, 3): walled, not near", x.ask(1, 3), 6);
        due.is("size(0): refused", x.size(0), 15);
        due.is("size(10): refused", x.size(10), 5);
        x.die(4);
        x.die(2);
        due.refused(x, "ask(4, 0): dead", x.ask(4, 0), 5);
        due.refused(x, "ask(0, 2): dead", x.ask(0, 2), 5);
        LastAsked y = new LastAsked();
        due.refused(y, "ask(0, 1)", y.ask(0, 1), 1);
    }

    private static void deaths(Due due) {
        LastAsked x = due.city(NowTest.BASE, 5);
        due.answered(x, "die(1)", x.die(1), 3);
        due.is("person(3, 1)", x.person(3, 1), 25);
        due.is("size(7)", x.size(7), 4);
        due.answered(x, "die(2)", x.die(2), -2);
        due.is("cat()", x.cat(), 30);
        due.refused(x, "die(2), dead", x.die(2), 5);
        due.refused(x, "die(5)", x.die(5), 1);
        due.refused(x, "die(-1)", x.die(-1), 1);
        due.answered(x, "die(0): b is dead", x.die(0), -2);
        due.is("cat()", x.cat(), 40);
        due.is("size(0): no hour", x.size(0), 10);
        LastAsked y = new LastAsked();
        due.refused(y, "die(0)", y.die(0), 1);
    }

    private static void nights(Due due) {
        LastAsked x = due.city(HoursTest.DRAWN, 4);
        due.answered(x, "night()", x.night(), 3);
        due.is("size(8)", x.size(8), 1);
        due.is("size(9)", x.size(9), 51790);
        due.is("person(2, 1)", x.person(2, 1), 60);
        due.is("size(0): no hour", x.size(0), 5);
        due.answered(x, "night()", x.night(), 12);
        due.is("cat()", x.cat(), 100);
        due.is("size(9)", x.size(9), 12409);
        due.answered(x, "night() of nobody", x.night(), 0);
        due.is("size(8)", x.size(8), 3);
        due.is("size(9) of nobody", x.size(9), 12409);
        due.is("seed(0)", x.seed(0), true);
        due.is("trouble()", x.trouble(), 0);
        due.is("size(10): seed is no ACT", x.size(10), 3);
        for (int i = 0; i < 3; i++) {
            due.is("undo()", x.undo(), true);
        }
        due.is("size(9): SEED too", x.size(9), 0);
        due.is("size(8): NIGHTS too", x.size(8), 0);
        due.is("cat(): the CAT too", x.cat(), 0);
        due.is("size(7)", x.size(7), 4);
        due.is("seed(65536)", x.seed(65536), true);
        due.answered(x, "night() by another SEED", x.night(), 13);
        due.refused(x, "seed(-1)", x.seed(-1), 2);
        due.refused(x, "seed(65537)", x.seed(65537), 2);
        due.is("size(9)", x.size(9), 65536);
        LastAsked y = new LastAsked();
        due.refused(y, "night()", y.night(), 1);
        due.refused(y, "seed(0)", y.seed(0), 1);
        due.refused(y, "seed(-1)", y.seed(-1), 1);
    }

    private static void undoing(Due due) {
        LastAsked x = due.city(NowTest.BASE, 5);
        due.refused(x, "undo()", x.undo(), 6);
        for (int i = 1; i <= 17; i++) {
            x.ask(0, 1);
            due.is("size(10)", x.size(10), Math.min(i, 16));
        }
        for (int i = 16; i >= 1; i--) {
            due.is("undo()", x.undo(), true);
            due.is("trouble()", x.trouble(), 0);
            due.is("size(0)", x.size(0), 10 + i);
            due.is("size(10)", x.size(10), i - 1);
        }
        due.refused(x, "undo()", x.undo(), 6);
        due.is("register(0, 1)", x.register(0, 1), 11);
        due.is("person(0, 1)", x.person(0, 1), 12);
        x.die(0);
        x.undo();
        due.is("person(0, 3)", x.person(0, 3), 1);
        due.is("person(1, 1)", x.person(1, 1), 18);
        LastAsked y = new LastAsked();
        due.refused(y, "undo()", y.undo(), 6);
    }

    private static void images(Due due) {
        LastAsked x = due.city(NowTest.BASE, 5);
        due.refused(x, "back(0)", x.back(0), 1);
        due.answered(x, "image()", x.image(), 0);
        x.seed(9);
        x.ask(0, 1);
        due.answered(x, "image()", x.image(), 1);
        x.die(1);
        x.night();
        due.answered(x, "image()", x.image(), 2);
        due.refused(x, "image()", x.image(), 3);
        due.is("size(11)", x.size(11), 3);
        due.is("size(10): IMAGES are no ACTS", x.size(10), 3);
        due.is("back(1)", x.back(1), true);
        due.is("trouble()", x.trouble(), 0);
        due.is("size(0)", x.size(0), 11);
        due.is("size(7)", x.size(7), 5);
        due.is("size(8)", x.size(8), 0);
        due.is("size(9)", x.size(9), 9);
        due.refused(x, "undo()", x.undo(), 6);
        due.is("size(11): all stay", x.size(11), 3);
        x.ask(0, 1);
        due.is("size(10)", x.size(10), 1);
        due.is("back(2)", x.back(2), true);
        due.is("size(7)", x.size(7), Integer.bitCount(x.lives(0, 0)));
        due.is("person(1, 3)", x.person(1, 3), 0);
        due.is("size(8)", x.size(8), 1);
        due.is("back(0)", x.back(0), true);
        due.is("size(9)", x.size(9), 0);
        due.is("size(0)", x.size(0), 10);
        due.is("back(1) isn't changed", x.back(1), true);
        due.is("register(0, 1)", x.register(0, 1), 11);
        due.refused(x, "back(3)", x.back(3), 1);
        due.refused(x, "back(-1)", x.back(-1), 1);
        due.is("size(0) stays", x.size(0), 11);
        LastAsked y = new LastAsked();
        due.refused(y, "image()", y.image(), 1);
        due.refused(y, "back(0)", y.back(0), 1);
    }

    private static void toldThings(Due due) {
        LastAsked x = due.city(NowTest.BASE, 5);
        due.refused(x, "heir(9)", x.heir(9), 1);
        due.is("led(0)", x.led(0), 2);
        due.is("led(1)", x.led(1), 4);
        due.throwsNoSuch("led(2)", x, 2);
        due.throwsNoSuch("led(-1)", x, -1);
        int[] sizes = {10, 2, 5, 3, 3, 1, 3, 5, 0, 0, 0, 0, 0};
        for (int what = 0; what <= 12; what++) {
            due.is("size(" + what + ")", x.size(what), sizes[what]);
        }
        due.is("size(13)", x.size(13), -1);
        due.is("size(-1)", x.size(-1), -1);
        due.is("feed", x.feed(1, 2, 3, 4, 5), 20);
        due.is("size(12)", x.size(12), 20);
        due.is("fault()", x.fault(), 0);
        due.is("where()", x.where(), -1);
        due.is("trouble(): of the latest that may be refused", x.trouble(), 1);
        x.die(3);
        due.is("trouble()", x.trouble(), 0);
        x.die(1);
        due.is("led(0) of those who live", x.led(0), 0);
        due.is("led(2)", x.led(2), 4);
        x.undo();
        x.die(0);
        x.die(2);
        due.is("led(0) of those who live", x.led(0), 1);
        due.throwsNoSuch("led(2)", x, 2);
    }

    /** Both edges lie behind the 512th call, of which nothing is promised; they are kept all the same. */
    private static void lastHour(Due due) {
        LastAsked x = due.city("city hour 99 gives 0;person a plain has 1 dies 0;person b plain has 1 dies 0", 2);
        for (int i = 0; i < 900; i++) {
            x.ask(0, 1);
        }
        due.is("size(0)", x.size(0), 999);
        due.refused(x, "ask(0, 1)", x.ask(0, 1), 3);
        due.is("register(0, 1)", x.register(0, 1), 999);
        for (int i = 0; i < 999; i++) {
            x.night();
        }
        due.is("size(8)", x.size(8), 999);
        due.refused(x, "night()", x.night(), 3);
    }

    public static void main(String[] args) {
        Due due = new Due();
        asks(due);
        deaths(due);
        nights(due);
        undoing(due);
        images(due);
        toldThings(due);
        lastHour(due);
        due.end();
    }
}

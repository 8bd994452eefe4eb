/** Promises 6 to 18: who is who and who inherits now, and what happens if some die at once. */
public final class NowTest {
    static final String BASE = "city hour 10 gives 2;person a plain has 10 dies 50;person b plain has 20 dies 0"
        + ";person c shut has 30 dies 50;person d walled has 5 dies 100;person e doctor has 7 dies 0"
        + ";near a d;near a b;near b c;asked b a at 3;asked a b at 5;asked d b at 8;heard a d at 4 give 1"
        + ";went a b;went b d;went c cat";

    private static void persons(Due due) {
        LastAsked x = due.city(BASE, 5);
        int[][] rows = {
            {0, 10, 50, 1, 10, 26, 14},
            {0, 20, 0, 1, 5, 17, 13},
            {1, 30, 50, 1, 2, 19, 0},
            {2, 5, 100, 1, 1, 19, 1},
            {3, 7, 0, 1, 0, 0, 15},
        };
        for (int p = 0; p < 5; p++) {
            for (int what = 0; what <= 6; what++) {
                due.answered(x, "person(" + p + ", " + what + ")", x.person(p, what), rows[p][what]);
            }
        }
        due.refused(x, "person(5, 0)", x.person(5, 0), 1);
        due.refused(x, "person(-1, 0)", x.person(-1, 0), 1);
        due.refused(x, "person(0, 7)", x.person(0, 7), 1);
        due.refused(x, "person(0, -1)", x.person(0, -1), 1);
        x.die(1);
        due.is("person(1, 3) of a dead one", x.person(1, 3), 0);
        due.is("person(1, 1) of a dead one", x.person(1, 1), 0);
        due.is("person(1, 4) of a dead one", x.person(1, 4), 5);
        due.is("person(1, 5) of a dead one", x.person(1, 5), 0);
        due.is("person(1, 6) of a dead one", x.person(1, 6), 0);
        due.is("person(0, 5) without a dead one", x.person(0, 5), 24);
        due.is("person(0, 6) without a dead one", x.person(0, 6), 12);
    }

    private static void registers(Due due) {
        LastAsked x = due.city(BASE, 5);
        due.answered(x, "register(1, 0)", x.register(1, 0), 3);
        due.answered(x, "register(0, 3), heard", x.register(0, 3), 4);
        due.answered(x, "register(3, 0)", x.register(3, 0), -2);
        due.refused(x, "register(0, 0)", x.register(0, 0), 1);
        due.refused(x, "register(5, 0)", x.register(5, 0), 1);
        due.refused(x, "register(0, -1)", x.register(0, -1), 1);
        x.ask(0, 1);
        due.is("register(0, 1) behind an ASK", x.register(0, 1), 11);
    }

    private static void heirs(Due due) {
        LastAsked x = due.city(BASE, 5);
        int[] heirs = {1, 3, -2, 0, -2};
        int[] heirTo = {8, 1, 0, 2, 0};
        int[] hopes = {15, 30, 30, 25, 7};
        for (int p = 0; p < 5; p++) {
            due.answered(x, "heir(" + p + ")", x.heir(p), heirs[p]);
            due.answered(x, "heirTo(" + p + ")", x.heirTo(p), heirTo[p]);
            due.answered(x, "hopes(" + p + ")", x.hopes(p), hopes[p]);
        }
        due.refused(x, "heir(5)", x.heir(5), 1);
        due.refused(x, "heirTo(-1)", x.heirTo(-1), 1);
        due.refused(x, "hopes(5)", x.hopes(5), 1);
        x.die(3);
        due.refused(x, "heir(3), dead", x.heir(3), 5);
        due.refused(x, "hopes(3), dead", x.hopes(3), 5);
        due.answered(x, "heirTo(3), dead", x.heirTo(3), 0);
        due.is("heir(1) behind d's death", x.heir(1), 0);
        due.is("heirTo(0) behind d's death", x.heirTo(0), 2);
        LastAsked y = due.city("city hour 9 gives 0;person a plain has 1 dies 0;person b plain has 2 dies 0"
            + ";person c plain has 4 dies 0;asked c a at 0;asked b a at 0;asked a b at 9;asked c b at 9", 3);
        due.is("heir(0): of like hours the first", y.heir(0), 1);
        due.is("heir(1): of like hours the first", y.heir(1), 0);
        due.is("hopes(0)", y.hopes(0), 3);
    }

    private static void catAndRichest(Due due) {
        LastAsked x = due.city(BASE, 5);
        due.answered(x, "cat()", x.cat(), 0);
        due.answered(x, "richest()", x.richest(), 2);
        x.die(2);
        due.is("cat() behind c's death", x.cat(), 30);
        due.is("richest() behind c's death", x.richest(), 1);
        for (int p : new int[] {0, 1, 3, 4}) {
            x.die(p);
        }
        due.answered(x, "richest() of nobody", x.richest(), -2);
        due.is("cat() of all", x.cat(), 72);
        LastAsked y = due.city("city hour 9 gives 0;person a plain has 1 dies 0;person b plain has 1 dies 0", 2);
        due.is("richest(): the first such", y.richest(), 0);
        LastAsked z = new LastAsked();
        due.refused(z, "cat()", z.cat(), 1);
        due.refused(z, "richest()", z.richest(), 1);
    }

    private static void dyingAtOnce(Due due) {
        LastAsked x = due.city(BASE, 5);
        due.answered(x, "goesTo(0, 1)", x.goesTo(0, 1), 1);
        due.answered(x, "goesTo(0, 3)", x.goesTo(0, 3), 3);
        due.answered(x, "goesTo(0, 11)", x.goesTo(0, 11), -2);
        due.answered(x, "goesTo(3, 10)", x.goesTo(3, 10), 0);
        due.answered(x, "goesTo(3, 9)", x.goesTo(3, 9), 1);
        due.answered(x, "goesTo(2, 31)", x.goesTo(2, 31), -2);
        due.refused(x, "goesTo(5, 1)", x.goesTo(5, 1), 1);
        due.refused(x, "goesTo(5, 99)", x.goesTo(5, 99), 1);
        due.refused(x, "goesTo(0, 2)", x.goesTo(0, 2), 2);
        due.refused(x, "goesTo(0, 0)", x.goesTo(0, 0), 2);
        due.refused(x, "goesTo(0, 33)", x.goesTo(0, 33), 2);
        due.refused(x, "goesTo(0, -1)", x.goesTo(0, -1), 2);
        due.answered(x, "hasThen(3, 3)", x.hasThen(3, 3), 35);
        due.answered(x, "hasThen(0, 3)", x.hasThen(0, 3), 0);
        due.answered(x, "hasThen(4, 0)", x.hasThen(4, 0), 7);
        due.answered(x, "hasThen(1, 13)", x.hasThen(1, 13), 35);
        due.refused(x, "hasThen(-1, 0)", x.hasThen(-1, 0), 1);
        due.refused(x, "hasThen(0, 32)", x.hasThen(0, 32), 2);
        due.refused(x, "hasThen(0, -8)", x.hasThen(0, -8), 2);
        due.answered(x, "catThen(0)", x.catThen(0), 0);
        due.answered(x, "catThen(11)", x.catThen(11), 35);
        due.answered(x, "catThen(31)", x.catThen(31), 72);
        due.refused(x, "catThen(32)", x.catThen(32), 2);
        due.refused(x, "catThen(-1)", x.catThen(-1), 2);
        x.die(4);
        due.is("cat()", x.cat(), 7);
        due.is("catThen(4): besides", x.catThen(4), 30);
        due.refused(x, "goesTo(4, 16), dead", x.goesTo(4, 16), 2);
        due.refused(x, "goesTo(0, 17), one dead", x.goesTo(0, 17), 2);
        due.refused(x, "hasThen(4, 0), dead", x.hasThen(4, 0), 5);
        due.refused(x, "hasThen(4, 99), dead", x.hasThen(4, 99), 5);
        due.refused(x, "hasThen(0, 16), one dead", x.hasThen(0, 16), 2);
        due.refused(x, "catThen(16), one dead", x.catThen(16), 2);
        LastAsked y = new LastAsked();
        due.refused(y, "catThen(0)", y.catThen(0), 1);
        due.refused(y, "goesTo(0, 1)", y.goesTo(0, 1), 1);
        due.refused(y, "hasThen(0, 1)", y.hasThen(0, 1), 1);
    }

    private static void roundsAndPlots(Due due) {
        LastAsked x = due.city(BASE, 5);
        due.answered(x, "rounds()", x.rounds(), 11);
        due.answered(x, "worthiest()", x.worthiest(), 1);
        due.answered(x, "plot(0, 1)", x.plot(0, 1), 1);
        due.answered(x, "plot(0, 3)", x.plot(0, 3), 3);
        due.answered(x, "plot(3, 1)", x.plot(3, 1), 9);
        due.answered(x, "plot(0, 4)", x.plot(0, 4), -2);
        due.answered(x, "plot(2, 0)", x.plot(2, 0), -2);
        due.refused(x, "plot(0, 0)", x.plot(0, 0), 1);
        due.refused(x, "plot(0, 5)", x.plot(0, 5), 1);
        due.refused(x, "plot(-1, 0)", x.plot(-1, 0), 1);
        x.die(3);
        due.answered(x, "rounds() without d", x.rounds(), 3);
        due.refused(x, "plot(0, 3), dead", x.plot(0, 3), 1);
        due.refused(x, "plot(3, 0), dead", x.plot(3, 0), 1);
        LastAsked y = due.city("city hour 9 gives 0;person a plain has 0 dies 0;person b plain has 5 dies 0"
            + ";person c plain has 5 dies 0;person d plain has 9 dies 0;asked a b at 1;asked a c at 2;asked b a at 3", 4);
        due.is("worthiest(): the first such", y.worthiest(), 1);
        due.is("rounds(): who only leads into one isn't in it", y.rounds(), 3);
        y.die(1);
        y.die(2);
        y.ask(3, 0);
        due.is("worthiest() has the first one, too", y.worthiest(), 0);
        y.undo();
        due.answered(y, "worthiest() of none", y.worthiest(), -2);
        due.is("rounds() of none", y.rounds(), 0);
        LastAsked z = new LastAsked();
        due.refused(z, "rounds()", z.rounds(), 1);
        due.refused(z, "worthiest()", z.worthiest(), 1);
        due.refused(z, "plot(0, 1)", z.plot(0, 1), 1);
        StringBuilder chain = new StringBuilder("city hour 9 gives 0");
        for (char c = 'a'; c <= 'f'; c++) {
            chain.append(";person ").append(c).append(" plain has 99 dies 100");
        }
        chain.append(";asked b a at 1;asked c b at 1;asked d c at 1;asked e d at 1;asked f e at 1");
        LastAsked six = due.city(chain.toString(), 6);
        due.is("plot(0, 5)", six.plot(0, 5), 31);
        due.is("rounds() without one", six.rounds(), 0);
        six.ask(0, 5);
        due.is("rounds() of six", six.rounds(), 63);
        six.undo();
        due.is("hasThen(5, 31)", six.hasThen(5, 31), 594);
        due.is("goesTo(0, 63)", six.goesTo(0, 63), -2);
        due.is("catThen(63)", six.catThen(63), 594);
    }

    public static void main(String[] args) {
        Due due = new Due();
        persons(due);
        registers(due);
        heirs(due);
        catAndRichest(due);
        dyingAtOnce(due);
        roundsAndPlots(due);
        due.end();
    }
}

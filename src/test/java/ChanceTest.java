/** Promises 19 to 29: a NIGHT by chance, and whom to ask. */
public final class ChanceTest {
    private static void chances(Due due) {
        LastAsked x = due.city(NowTest.BASE, 5);
        long[][] means = {{15, 2}, {55, 2}, {15, 1}, {0, 1}, {7, 1}};
        for (int p = 0; p < 5; p++) {
            due.fraction("mean(" + p + ")", x.mean(p, false), x.mean(p, true), means[p][0], means[p][1]);
            due.is("trouble()", x.trouble(), 0);
        }
        due.fraction("catMean", x.catMean(false), x.catMean(true), 15, 1);
        due.fraction("odds(1, 21)", x.odds(1, 21, false), x.odds(1, 21, true), 1, 2);
        due.fraction("odds(1, 20)", x.odds(1, 20, false), x.odds(1, 20, true), 1, 1);
        due.fraction("odds(1, 35)", x.odds(1, 35, false), x.odds(1, 35, true), 1, 2);
        due.fraction("odds(1, 36)", x.odds(1, 36, false), x.odds(1, 36, true), 0, 1);
        due.fraction("odds(0, 594)", x.odds(0, 594, false), x.odds(0, 594, true), 0, 1);
        due.fraction("odds(3, 0)", x.odds(3, 0, false), x.odds(3, 0, true), 1, 1);
        due.refused(x, "odds(0, 595)", x.odds(0, 595, false), 2);
        due.refused(x, "odds(0, -1)", x.odds(0, -1, true), 2);
        due.refused(x, "odds(5, -1)", x.odds(5, -1, true), 1);
        due.fraction("passes(3, 1)", x.passes(3, 1, false), x.passes(3, 1, true), 1, 2);
        due.fraction("passes(3, 0)", x.passes(3, 0, false), x.passes(3, 0, true), 1, 2);
        due.fraction("passes(0, 3)", x.passes(0, 3, false), x.passes(0, 3, true), 0, 1);
        due.refused(x, "passes(0, 0)", x.passes(0, 0, false), 1);
        due.refused(x, "passes(0, 5)", x.passes(0, 5, true), 1);
        due.refused(x, "mean(5)", x.mean(5, false), 1);
        due.refused(x, "mean(-1)", x.mean(-1, true), 1);
        x.die(0);
        due.fraction("mean(0), dead", x.mean(0, false), x.mean(0, true), 0, 1);
        due.fraction("odds(0, 0), dead", x.odds(0, 0, false), x.odds(0, 0, true), 1, 1);
        due.fraction("odds(0, 1), dead", x.odds(0, 1, false), x.odds(0, 1, true), 0, 1);
        due.fraction("passes(0, 1), dead", x.passes(0, 1, false), x.passes(0, 1, true), 0, 1);
        due.fraction("passes(3, 0), dead", x.passes(3, 0, false), x.passes(3, 0, true), 0, 1);
        due.is("trouble()", x.trouble(), 0);
        LastAsked y = new LastAsked();
        due.refused(y, "mean(0)", y.mean(0, false), 1);
        due.refused(y, "odds(0, 0)", y.odds(0, 0, false), 1);
        due.refused(y, "passes(0, 1)", y.passes(0, 1, false), 1);
        due.refused(y, "catMean", y.catMean(true), 1);
    }

    /** Two who asked each other: what goes round comes to the CAT. */
    private static void rounds(Due due) {
        LastAsked x = due.city("city hour 9 gives 0;person a plain has 10 dies 30;person b plain has 20 dies 7"
            + ";asked a b at 1;asked b a at 1", 2);
        // 0.7 * (10 + 20 * 0.07); 0.3 * 0.07 * 30
        due.fraction("mean(0)", x.mean(0, false), x.mean(0, true), 399, 50);
        due.fraction("catMean", x.catMean(false), x.catMean(true), 63, 100);
        due.fraction("odds(0, 10)", x.odds(0, 10, false), x.odds(0, 10, true), 7, 10);
        due.fraction("odds(0, 1)", x.odds(0, 1, false), x.odds(0, 1, true), 7, 10);
        due.fraction("odds(0, 30)", x.odds(0, 30, false), x.odds(0, 30, true), 49, 1000);
        due.fraction("passes(1, 0)", x.passes(1, 0, false), x.passes(1, 0, true), 49, 1000);
        StringBuilder six = new StringBuilder("city hour 9 gives 0");
        for (char c = 'a'; c <= 'f'; c++) {
            six.append(";person ").append(c).append(" plain has 99 dies 99");
        }
        six.append(";asked b a at 1;asked c b at 1;asked d c at 1;asked e d at 1;asked f e at 1;asked a f at 1");
        LastAsked y = due.city(six.toString(), 6);
        // 0.99 to the 6th times 594; 0.01 times 99 times (1 and 0.99 and .. and 0.99 to the 5th)
        due.fraction("catMean of six", y.catMean(false), y.catMean(true), 594L * 941480149401L / 2, 500000000000L);
        due.fraction("mean(3) of six", y.mean(3, false), y.mean(3, true), 5793465209301L, 1000000000000L);
        due.fraction("odds(0, 594)", y.odds(0, 594, false), y.odds(0, 594, true), 9509900499L, 1000000000000L);
        due.fraction("passes(1, 0)", y.passes(1, 0, false), y.passes(1, 0, true), 9509900499L, 1000000000000L);
    }

    private static void bests(Due due) {
        LastAsked x = due.city(NowTest.BASE, 5);
        due.answered(x, "best(0, 1)", x.best(0, 1), 2);
        due.fraction("bestMean(0, 1)", x.bestMean(0, 1, false), x.bestMean(0, 1, true), 17, 2);
        due.answered(x, "best(0, 2)", x.best(0, 2), 22);
        due.fraction("bestMean(0, 2)", x.bestMean(0, 2, false), x.bestMean(0, 2, true), 19, 2);
        due.answered(x, "best(4, 3)", x.best(4, 3), 0);
        due.fraction("bestMean(4, 3)", x.bestMean(4, 3, false), x.bestMean(4, 3, true), 7, 1);
        due.answered(x, "best(3, 1)", x.best(3, 1), 0);
        due.refused(x, "best(5, 0)", x.best(5, 0), 1);
        due.refused(x, "best(0, 0)", x.best(0, 0), 2);
        due.refused(x, "best(0, 4)", x.best(0, 4), 2);
        due.refused(x, "bestMean(-1, 1)", x.bestMean(-1, 1, false), 1);
        due.refused(x, "bestMean(0, 4)", x.bestMean(0, 4, true), 2);
        due.is("size(0): nothing was asked", x.size(0), 10);
        due.is("size(10): no ACT", x.size(10), 0);
        x.die(0);
        due.refused(x, "best(0, 4), dead", x.best(0, 4), 2);
        due.refused(x, "best(0, 1), dead", x.best(0, 1), 5);
        due.refused(x, "bestMean(0, 1), dead", x.bestMean(0, 1, false), 5);
        // b has just one left to give, so two of three asks bring something, and the least row counts.
        LastAsked y = due.city("city hour 9 gives 4;person a plain has 0 dies 0;person b plain has 5 dies 0"
            + ";person c plain has 2 dies 0", 3);
        due.is("best(0, 1)", y.best(0, 1), 2);
        due.is("best(0, 2)", y.best(0, 2), 23);
        due.is("best(0, 3)", y.best(0, 3), 223);
        due.fraction("bestMean(0, 3)", y.bestMean(0, 3, false), y.bestMean(0, 3, true), 7, 1);
        due.is("best(1, 3): nobody ahead of all", y.best(1, 3), 3);
    }

    private static void tours(Due due) {
        LastAsked x = due.city(NowTest.BASE, 5);
        due.answered(x, "tour(0, 0)", x.tour(0, 0), 0);
        due.answered(x, "tourHours(0, 0)", x.tourHours(0, 0), 0);
        due.answered(x, "tour(0, 1)", x.tour(0, 1), 2);
        due.answered(x, "tour(0, 12)", x.tour(0, 12), 2);
        due.answered(x, "tourHours(0, 12)", x.tourHours(0, 12), 1);
        due.refused(x, "tour(0, 13)", x.tour(0, 13), 2);
        due.refused(x, "tour(0, -1)", x.tour(0, -1), 2);
        due.refused(x, "tour(5, 13)", x.tour(5, 13), 1);
        due.refused(x, "tourHours(0, 13)", x.tourHours(0, 13), 2);
        due.refused(x, "tourHours(-1, 1)", x.tourHours(-1, 1), 1);
        due.answered(x, "apart(0, 2)", x.apart(0, 2), 2);
        due.answered(x, "apart(3, 2)", x.apart(3, 2), 3);
        due.answered(x, "apart(0, 4)", x.apart(0, 4), -2);
        due.answered(x, "apart(4, 4)", x.apart(4, 4), 0);
        due.refused(x, "apart(0, 5)", x.apart(0, 5), 1);
        due.refused(x, "apart(-1, 0)", x.apart(-1, 0), 1);
        x.die(0);
        due.is("apart(3, 2) by a dead one's house", x.apart(3, 2), 3);
        due.is("tour(1, 2): nobody to ask there", x.tour(1, 2), 0);
        due.refused(x, "tour(0, 1), dead", x.tour(0, 1), 5);
        due.refused(x, "tourHours(0, 1), dead", x.tourHours(0, 1), 5);
        // A star: the middle has nothing, so the ends are two hours from each other.
        LastAsked y = due.city("city hour 9 gives 5;person a plain has 0 dies 0;person b plain has 5 dies 0"
            + ";person c plain has 4 dies 0;person d plain has 3 dies 0;person m shut has 0 dies 0"
            + ";near a m;near m b;near m c;near m d", 5);
        int[] sets = {0, 0, 2, 2, 6, 6, 14, 14};
        int[] hours = {0, 0, 2, 2, 4, 4, 6, 6};
        for (int n = 0; n < 8; n++) {
            due.is("tour(0, " + n + ")", y.tour(0, n), sets[n]);
            due.is("tourHours(0, " + n + ")", y.tourHours(0, n), hours[n]);
        }
        due.is("tour(3, 2)", y.tour(3, 2), 2);
        y.ask(0, 1);
        due.is("tour(3, 2): a has more now", y.tour(3, 2), 1);
        due.is("tour(3, 4)", y.tour(3, 4), 5);
        due.is("tour(3, 12): b has nothing now", y.tour(3, 12), 5);
        due.is("tourHours(3, 12)", y.tourHours(3, 12), 4);
        y.undo();
        y.die(4);
        due.is("tour(0, 4) by a dead one's house", y.tour(0, 4), 6);
        y.die(1);
        due.is("tour(0, 4): the dead aren't asked", y.tour(0, 4), 12);
    }

    private static void toAskAndRivals(Due due) {
        LastAsked x = due.city(NowTest.BASE, 5);
        due.answered(x, "toAsk(0)", x.toAsk(0), 1);
        due.answered(x, "toAsk(1)", x.toAsk(1), 4);
        due.answered(x, "toAsk(2)", x.toAsk(2), 1);
        due.answered(x, "toAsk(4)", x.toAsk(4), -2);
        due.refused(x, "toAsk(5)", x.toAsk(5), 1);
        due.answered(x, "rivals(0, 1)", x.rivals(0, 1), 8);
        due.answered(x, "rivals(3, 1)", x.rivals(3, 1), 0);
        due.answered(x, "rivals(2, 1)", x.rivals(2, 1), -2);
        due.refused(x, "rivals(1, 1)", x.rivals(1, 1), 1);
        due.refused(x, "rivals(1, 5)", x.rivals(1, 5), 1);
        x.die(3);
        due.is("rivals(0, 1) without d", x.rivals(0, 1), 0);
        due.answered(x, "rivals(3, 1), he is dead", x.rivals(3, 1), -2);
        due.refused(x, "rivals(0, 3), dead", x.rivals(0, 3), 5);
        due.answered(x, "toAsk(3), dead", x.toAsk(3), -2);
        x.die(4);
        due.answered(x, "toAsk(1): the dead aren't asked", x.toAsk(1), -2);
        LastAsked y = due.city("city hour 9 gives 0;person a plain has 1 dies 0;person b plain has 1 dies 0"
            + ";person c plain has 1 dies 0;person d plain has 1 dies 0;asked b a at 4;asked c a at 4;asked d a at 5", 4);
        due.is("rivals(1, 0): of like hours the first", y.rivals(1, 0), 8);
        due.is("rivals(2, 0): of like hours the first", y.rivals(2, 0), 10);
        due.is("toAsk(3): the first such", y.toAsk(3), 1);
        y.ask(1, 3);
        y.ask(0, 3);
        due.is("rivals(1, 3)", y.rivals(1, 3), 1);
        LastAsked z = new LastAsked();
        due.refused(z, "best(0, 1)", z.best(0, 1), 1);
        due.refused(z, "bestMean(0, 1)", z.bestMean(0, 1, true), 1);
        due.refused(z, "tour(0, 1)", z.tour(0, 1), 1);
        due.refused(z, "tourHours(0, 1)", z.tourHours(0, 1), 1);
        due.refused(z, "apart(0, 0)", z.apart(0, 0), 1);
        due.refused(z, "toAsk(0)", z.toAsk(0), 1);
        due.refused(z, "rivals(0, 1)", z.rivals(0, 1), 1);
    }

    public static void main(String[] args) {
        Due due = new Due();
        chances(due);
        rounds(due);
        bests(due);
        tours(due);
        toAskAndRivals(due);
        due.end();
    }
}

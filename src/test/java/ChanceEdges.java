import java.util.function.LongFunction;

/** The edges of promises 19 to 29: a NIGHT by chance, and whom to ask. */
final class ChanceEdges {
    private static final String HEAD = "city hour 9 gives 9";
    private static final String ALONE = "city hour 0 gives 0;person a plain has 0 dies 0";
    /** a's HEIR is b, b's is c, up to f; each dies by 99 in a hundred. 99 to the 5th is 9,509,900,499. */
    private static final String POOR_CHAIN = HEAD + Edges.people(6, "plain", 1, 99) + Edges.chain(6);
    private static final String RICH_CHAIN = HEAD + Edges.people(6, "plain", 99, 99) + Edges.chain(6);
    private static final long TRILLION = 1000000000000L;
    /** The middle is a's; the five others are an hour from it. */
    private static final String STAR = ";near a b;near a c;near a d;near a e;near a f";

    static void all(Edges due) {
        mean(due);
        odds(due);
        passes(due);
        catMean(due);
        best(due);
        bestCan(due);
        bestMean(due);
        tour(due);
        tourLike(due);
        tourHours(due);
        apart(due);
        toAsk(due);
        rivals(due);
    }

    private static String two(int has, int dies, int has2, int dies2) {
        return HEAD + ";person a plain has " + has + " dies " + dies + ";person b plain has " + has2 + " dies " + dies2;
    }

    /** An upper and a lower WHOLE, neither of them refused. */
    private static void fraction(Edges due, LastAsked x, String call, LongFunction<Long> by, long upper, long lower) {
        due.answered(x, call + ", upper", by.apply(0), upper);
        due.answered(x, call + ", lower", by.apply(1), lower);
    }

    private static void meanIs(Edges due, LastAsked x, int p, long upper, long lower) {
        fraction(due, x, "mean(" + p + ")", low -> x.mean(p, low == 1), upper, lower);
    }

    private static void mean(Edges due) {
        due.sentence(19, "The mean of what one HAS (the dead: 0) behind a NIGHT, the upper WHOLE or the lower, in lowest "
            + "terms (0 by 1).");
        meanIs(due, due.city(ALONE, 1), 0, 0, 1);
        meanIs(due, due.city(two(99, 0, 0, 0), 2), 0, 99, 1);
        meanIs(due, due.city(two(99, 100, 0, 0), 2), 0, 0, 1);
        meanIs(due, due.city(two(99, 1, 0, 0), 2), 0, 9801, 100);
        meanIs(due, due.city(two(1, 99, 0, 0), 2), 0, 1, 100);
        meanIs(due, due.city(two(50, 50, 0, 0), 2), 0, 25, 1);
        meanIs(due, due.city(two(5, 98, 0, 0), 2), 0, 1, 10);
        meanIs(due, due.city(two(0, 50, 7, 50) + ";asked a b at 1", 2), 0, 7, 4);
        LastAsked x = due.city(POOR_CHAIN, 6);
        // 0.01 times (1 and 0.99 and .. and 0.99 to the 5th): the greatest lower WHOLE there is
        meanIs(due, x, 5, 58519850599L, TRILLION);
        LastAsked y = due.city(HEAD + Edges.people(5, "plain", 99, 100) + ";person f plain has 99 dies 0" + Edges.chain(6), 6);
        meanIs(due, y, 5, 594, 1);
        meanIs(due, y, 0, 0, 1);
        y.die(5);
        meanIs(due, y, 5, 0, 1);
        due.is("size(7): a NIGHT by chance is no ACT", y.size(7), 5);

        due.sentence(19, "-1: 1.");
        due.bounds(x, "mean(p, false)", p -> x.mean(p, false), 0, 5, 1);
        due.bounds(x, "mean(p, true)", p -> x.mean(p, true), 0, 5, 1);
        LastAsked none = new LastAsked();
        due.refused(none, "mean(0) without a CITY", none.mean(0, true), 1);
    }

    private static void oddsAre(Edges due, LastAsked x, int p, int much, long upper, long lower) {
        fraction(due, x, "odds(" + p + ", " + much + ")", low -> x.odds(p, much, low == 1), upper, lower);
    }

    private static void odds(Edges due) {
        due.sentence(20, "How likely he HAS so much (0 .. 594) or more then, likewise.");
        LastAsked x = due.city(RICH_CHAIN, 6);
        oddsAre(due, x, 5, 0, 1, 1);
        oddsAre(due, x, 5, 1, 1, 100);
        oddsAre(due, x, 5, 99, 1, 100);
        oddsAre(due, x, 5, 100, 99, 10000);
        oddsAre(due, x, 5, 198, 99, 10000);
        oddsAre(due, x, 5, 199, 9801, 1000000);
        oddsAre(due, x, 5, 594, 9509900499L, TRILLION);
        oddsAre(due, x, 4, 594, 0, 1);
        x.die(0);
        oddsAre(due, x, 5, 99, 1, 100);
        oddsAre(due, x, 5, 594, 9509900499L / 99, TRILLION / 100);
        x.undo();
        LastAsked y = due.city(two(0, 0, 99, 100), 2);
        oddsAre(due, y, 0, 0, 1, 1);
        oddsAre(due, y, 0, 1, 0, 1);
        oddsAre(due, y, 1, 0, 1, 1);
        oddsAre(due, y, 1, 1, 0, 1);
        y.die(1);
        oddsAre(due, y, 1, 0, 1, 1);
        oddsAre(due, y, 1, 1, 0, 1);
        LastAsked z = due.city(two(98, 0, 1, 0), 2);
        oddsAre(due, z, 0, 98, 1, 1);
        oddsAre(due, z, 0, 99, 0, 1);

        due.sentence(20, "-1: 1; 2.");
        due.bounds(x, "odds(p, 594)", p -> x.odds(p, 594, true), 0, 5, 1);
        due.bounds(x, "odds(0, much)", much -> x.odds(0, much, true), 0, 594, 2);
        due.refused(x, "odds(6, 595): 1 ahead of 2", x.odds(6, 595, false), 1);
        due.refused(y, "odds(1, -1) of a dead one", y.odds(1, -1, false), 2);
        LastAsked none = new LastAsked();
        due.refused(none, "odds(0, 0) without a CITY", none.odds(0, 0, true), 1);
    }

    private static void passesAre(Edges due, LastAsked x, int from, int to, long upper, long lower) {
        fraction(due, x, "passes(" + from + ", " + to + ")", low -> x.passes(from, to, low == 1), upper, lower);
    }

    private static void passes(Edges due) {
        due.sentence(21, "How likely all of one goes to another one in it (he dies, the other one doesn't), likewise.");
        LastAsked x = due.city(RICH_CHAIN, 6);
        passesAre(due, x, 0, 1, 99, 10000);
        passesAre(due, x, 0, 5, 9509900499L, TRILLION);
        passesAre(due, x, 1, 0, 0, 1);
        passesAre(due, x, 5, 0, 0, 1);
        passesAre(due, due.city(two(9, 100, 9, 0) + ";asked b a at 0", 2), 0, 1, 1, 1);
        passesAre(due, due.city(two(0, 100, 9, 0) + ";asked b a at 0", 2), 0, 1, 1, 1);
        passesAre(due, due.city(two(9, 0, 9, 0) + ";asked b a at 0", 2), 0, 1, 0, 1);
        passesAre(due, due.city(two(9, 100, 9, 100) + ";asked b a at 0", 2), 0, 1, 0, 1);
        passesAre(due, due.city(two(9, 50, 9, 50) + ";asked b a at 0;asked a b at 0", 2), 0, 1, 1, 4);
        x.die(0);
        passesAre(due, x, 0, 1, 0, 1);
        passesAre(due, x, 1, 0, 0, 1);

        due.sentence(21, "-1: 1 (unlike).");
        due.bounds(x, "passes(from, 3)", from -> from == 3 ? 0 : x.passes(from, 3, true), 0, 5, 1);
        due.bounds(x, "passes(3, to)", to -> x.passes(3, to, true), 0, 5, 1);
        due.refused(x, "passes(1, 1)", x.passes(1, 1, false), 1);
        due.refused(x, "passes(0, 0), dead", x.passes(0, 0, false), 1);
        LastAsked none = new LastAsked();
        due.refused(none, "passes(0, 1) without a CITY", none.passes(0, 1, true), 1);
    }

    private static void catMeanIs(Edges due, LastAsked x, long upper, long lower) {
        fraction(due, x, "catMean", low -> x.catMean(low == 1), upper, lower);
    }

    private static void catMean(Edges due) {
        due.sentence(22, "The mean of what the CAT comes to have by it, besides, likewise.");
        catMeanIs(due, due.city(ALONE, 1), 0, 1);
        catMeanIs(due, due.city(two(99, 0, 99, 0), 2), 0, 1);
        catMeanIs(due, due.city(NowEdges.CHAIN, 6), 594, 1);
        catMeanIs(due, due.city(NowEdges.ROUND, 6), 594, 1);
        // 0.99 and .. and 0.99 to the 6th
        catMeanIs(due, due.city(POOR_CHAIN, 6), 5793465209301L, TRILLION);
        // a and b leave to each other, c to a: a quarter, a quarter, an eighth of 8
        catMeanIs(due, due.city(HEAD + Edges.people(3, "plain", 8, 50) + ";asked a b at 1;asked b a at 1;asked a c at 1", 3), 5, 1);
        LastAsked x = due.city(two(10, 50, 99, 50), 2);
        x.die(1);
        due.is("cat()", x.cat(), 99);
        catMeanIs(due, x, 5, 1);
        x.die(0);
        catMeanIs(due, x, 0, 1);

        due.sentence(22, "-1: 1 (no CITY).");
        LastAsked none = new LastAsked();
        due.refused(none, "catMean(false)", none.catMean(false), 1);
        due.refused(none, "catMean(true)", none.catMean(true), 1);
    }

    private static void best(Edges due) {
        due.sentence(23, "BEST, as digits (n of them, the first one's the highest; 0 nobody, else the person and 1).");
        LastAsked x = due.city(HEAD + Edges.people(5, "plain", 0, 0) + ";person f plain has 99 dies 0", 6);
        due.answered(x, "best(0, 1), the greatest", x.best(0, 1), 6);
        due.answered(x, "best(0, 2), the greatest", x.best(0, 2), 66);
        due.answered(x, "best(0, 3), the greatest", x.best(0, 3), 666);
        due.answered(x, "best(5, 3), the least", x.best(5, 3), 0);
        LastAsked first = due.city(HEAD + ";person a plain has 99 dies 0;person b plain has 0 dies 0", 2);
        due.answered(first, "best(1, 1): the first one", first.best(1, 1), 1);
        due.answered(first, "best(1, 2): two digits, no more", first.best(1, 2), 11);
        due.answered(first, "best(1, 3): three digits, no more", first.best(1, 3), 111);
        due.is("best(0, 3) of one person", due.city(ALONE, 1).best(0, 3), 0);
        due.is("size(10): no ACT", x.size(10), 0);
        due.is("size(0): no hour", x.size(0), 9);

        due.sentence(23, "a row, of like ones the first, ask by ask (nobody ahead of all, then by numbers; one he can't "
            + "ask: no such row)");
        LastAsked y = due.city(HEAD + ";person a plain has 0 dies 0;person b plain has 9 dies 0;person c plain has 0 dies 0"
            + ";person d plain has 9 dies 0", 4);
        due.answered(y, "best(0, 1)", y.best(0, 1), 2);
        due.answered(y, "best(0, 2)", y.best(0, 2), 24);
        due.answered(y, "best(0, 3): nobody at first", y.best(0, 3), 24);
        due.answered(y, "best(3, 1)", y.best(3, 1), 2);
        due.answered(y, "best(3, 2): nobody at first", y.best(3, 2), 2);
        LastAsked z = due.city("city hour 9 gives 0;person a plain has 0 dies 0;person b plain has 8 dies 50"
            + ";person c plain has 8 dies 50;asked a c at 9", 3);
        due.answered(z, "best(0, 2): whose HEIR he is needn't be asked", z.best(0, 2), 2);
        due.answered(z, "best(1, 1): the HEIR's place is taken by asking", z.best(1, 1), 3);

        due.sentence(23, "NONE: 1; 2; 5 (he is dead).");
        due.bounds(x, "best(p, 1)", p -> x.best(p, 1), 0, 5, 1);
        due.bounds(x, "best(0, n)", n -> x.best(0, n), 1, 3, 2);
        due.refused(x, "best(6, 0): 1 ahead of 2", x.best(6, 0), 1);
        x.die(0);
        due.refused(x, "best(0, 1), dead", x.best(0, 1), 5);
        due.refused(x, "best(0, 3), dead", x.best(0, 3), 5);
        due.refused(x, "best(0, 0): 2 ahead of 5", x.best(0, 0), 2);
        due.refused(x, "best(0, 4): 2 ahead of 5", x.best(0, 4), 2);
        LastAsked none = new LastAsked();
        due.refused(none, "best(0, 1) without a CITY", none.best(0, 1), 1);
    }

    private static void bestCan(Edges due) {
        due.sentence(23, "A doctor never asks; a shut one isn't asked; a walled one by those near alone.");
        LastAsked x = due.city(HEAD + ";person a plain has 1 dies 0;person b shut has 99 dies 0;person c walled has 99 dies 0"
            + ";person d doctor has 2 dies 0;person e plain has 0 dies 0;near e c", 5);
        due.answered(x, "best(0, 1): of a doctor", x.best(0, 1), 4);
        due.answered(x, "best(4, 1): of a walled one near", x.best(4, 1), 3);
        due.answered(x, "best(3, 3): a doctor", x.best(3, 3), 0);
        x.die(3);
        due.answered(x, "best(0, 1): the dead aren't asked", x.best(0, 1), 0);
        x.die(2);
        due.answered(x, "best(4, 2)", x.best(4, 2), 1);
    }

    private static void bestMeanIs(Edges due, LastAsked x, int p, int n, long upper, long lower) {
        fraction(due, x, "bestMean(" + p + ", " + n + ")", low -> x.bestMean(p, n, low == 1), upper, lower);
    }

    private static void bestMean(Edges due) {
        due.sentence(24, "The mean by it, likewise.");
        LastAsked x = due.city(HEAD + Edges.people(5, "plain", 0, 0) + ";person f plain has 20 dies 50", 6);
        // He asks, so he is f's HEIR: 9 and half of 11; 18 and half of 2; then f has nothing left.
        bestMeanIs(due, x, 0, 1, 29, 2);
        bestMeanIs(due, x, 0, 2, 19, 1);
        bestMeanIs(due, x, 0, 3, 20, 1);
        bestMeanIs(due, x, 5, 3, 10, 1);
        bestMeanIs(due, due.city(ALONE, 1), 0, 3, 0, 1);
        // All but one hundredth of 99: he has 9 by asking, and 0.99 of 90 by heirship, if he lives.
        LastAsked y = due.city(two(0, 99, 99, 99), 2);
        bestMeanIs(due, y, 0, 1, 981, 1000);
        due.is("person(0, 1): nothing was given", y.person(0, 1), 0);

        due.sentence(24, "-1: 1; 2; 5.");
        due.bounds(x, "bestMean(p, 1)", p -> x.bestMean(p, 1, true), 0, 5, 1);
        due.bounds(x, "bestMean(0, n)", n -> x.bestMean(0, n, false), 1, 3, 2);
        due.refused(x, "bestMean(6, 4): 1 ahead of 2", x.bestMean(6, 4, true), 1);
        x.die(0);
        due.refused(x, "bestMean(0, 1), dead", x.bestMean(0, 1, true), 5);
        due.refused(x, "bestMean(0, 4): 2 ahead of 5", x.bestMean(0, 4, true), 2);
        LastAsked none = new LastAsked();
        due.refused(none, "bestMean(0, 1) without a CITY", none.bestMean(0, 1, false), 1);
    }

    private static void tour(Edges due) {
        due.sentence(25, "TOUR for one in n hours (0 .. 12): from his house he goes from house to house (near ones; an "
            + "hour each; those of the dead, too)");
        LastAsked x = due.city(HEAD + Edges.people(6, "plain", 9, 0) + STAR, 6);
        int[] sets = {0, 2, 2, 6, 6, 14, 14, 30, 30, 62, 62, 62, 62};
        for (int n = 0; n <= 12; n++) {
            due.answered(x, "tour(0, " + n + ")", x.tour(0, n), sets[n]);
        }
        due.answered(x, "tour(1, 0)", x.tour(1, 0), 0);
        due.answered(x, "tour(1, 1)", x.tour(1, 1), 1);
        due.answered(x, "tour(1, 2)", x.tour(1, 2), 5);
        x.die(0);
        due.answered(x, "tour(1, 1): he is dead", x.tour(1, 1), 0);
        due.answered(x, "tour(1, 2): by his house all the same", x.tour(1, 2), 4);
        due.is("tour(0, 12) without near ones", due.city(HEAD + Edges.people(6, "plain", 9, 0), 6).tour(0, 12), 0);

        due.sentence(25, "asks (in no time of his own: the hour of ASK aside) some where he comes by, each once at most");
        LastAsked y = due.city(HEAD + Edges.people(2, "plain", 0, 0) + ";person c plain has 99 dies 0;person d shut has 99 dies 0"
            + ";person e plain has 5 dies 0;near a b;near b c;near c d;near d e", 5);
        due.answered(y, "tour(0, 1): b has nothing", y.tour(0, 1), 0);
        due.answered(y, "tour(0, 2): by b's house", y.tour(0, 2), 4);
        due.answered(y, "tour(0, 3): d is shut", y.tour(0, 3), 4);
        due.answered(y, "tour(0, 4): each once, so to e too", y.tour(0, 4), 20);
        due.answered(y, "tour(3, 12): a shut one asks", y.tour(3, 12), 20);
        due.is("size(0): no hour", y.size(0), 9);

        due.sentence(25, "NONE: 1; 2; 5 (he is dead).");
        due.bounds(y, "tour(p, 12)", p -> y.tour(p, 12), 0, 4, 1);
        due.bounds(y, "tour(0, n)", n -> y.tour(0, n), 0, 12, 2);
        due.refused(y, "tour(5, 13): 1 ahead of 2", y.tour(5, 13), 1);
        y.die(4);
        due.refused(y, "tour(4, 0), dead", y.tour(4, 0), 5);
        due.refused(y, "tour(4, 13): 2 ahead of 5", y.tour(4, 13), 2);
        LastAsked none = new LastAsked();
        due.refused(none, "tour(0, 0) without a CITY", none.tour(0, 0), 1);
    }

    private static void tourLike(Edges due) {
        due.sentence(25, "of like ones the least bits of those he asks");
        // In three hours b and c (4 and 5), or d (9) by e and f.
        LastAsked x = due.city(HEAD + ";person a plain has 0 dies 0;person b plain has 4 dies 0;person c plain has 5 dies 0"
            + ";person d plain has 9 dies 0;person e plain has 0 dies 0;person f plain has 0 dies 0"
            + ";near a b;near a c;near a e;near e f;near f d", 6);
        due.answered(x, "tour(0, 1)", x.tour(0, 1), 4);
        due.answered(x, "tour(0, 3)", x.tour(0, 3), 6);
        LastAsked y = due.city(HEAD + ";person a plain has 0 dies 0;person b plain has 9 dies 0;person c plain has 4 dies 0"
            + ";person d plain has 5 dies 0;person e plain has 0 dies 0;person f plain has 0 dies 0"
            + ";near a c;near a d;near a e;near e f;near f b", 6);
        due.answered(y, "tour(0, 3)", y.tour(0, 3), 2);
        due.answered(y, "tour(1, 12): who has nothing isn't asked", y.tour(1, 12), 12);
    }

    private static void tourHours(Edges due) {
        due.sentence(26, "The fewest hours it takes.");
        LastAsked x = due.city(HEAD + Edges.people(6, "plain", 9, 0) + STAR, 6);
        int[] hours = {0, 1, 1, 3, 3, 5, 5, 7, 7, 9, 9, 9, 9};
        for (int n = 0; n <= 12; n++) {
            due.answered(x, "tourHours(0, " + n + ")", x.tourHours(0, n), hours[n]);
        }
        due.answered(x, "tourHours(5, 12)", x.tourHours(5, 12), 8);
        due.answered(x, "tourHours(5, 1)", x.tourHours(5, 1), 1);
        due.is("tourHours(0, 12): nobody to ask", due.city(ALONE, 1).tourHours(0, 12), 0);
        LastAsked y = due.city(HEAD + Edges.people(6, "plain", 9, 0) + ";near a b;near b c;near c d;near d e;near e f;near f a", 6);
        due.answered(y, "tourHours(0, 12): round the town", y.tourHours(0, 12), 5);

        due.sentence(26, "NONE: likewise.");
        due.bounds(y, "tourHours(p, 12)", p -> y.tourHours(p, 12), 0, 5, 1);
        due.bounds(y, "tourHours(0, n)", n -> y.tourHours(0, n), 0, 12, 2);
        due.refused(y, "tourHours(6, 13): 1 ahead of 2", y.tourHours(6, 13), 1);
        y.die(0);
        due.refused(y, "tourHours(0, 0), dead", y.tourHours(0, 0), 5);
        due.refused(y, "tourHours(0, -1): 2 ahead of 5", y.tourHours(0, -1), 2);
        LastAsked none = new LastAsked();
        due.refused(none, "tourHours(0, 0) without a CITY", none.tourHours(0, 0), 1);
    }

    private static void apart(Edges due) {
        due.sentence(27, "Hours from one's house to another one's by near ones; -2 there is no way.");
        String row = HEAD + Edges.people(6, "shut", 9, 0) + ";near a b;near c b;near c d;near e d;near e f";
        LastAsked x = due.city(row, 6);
        due.answered(x, "apart(0, 5), the most", x.apart(0, 5), 5);
        due.answered(x, "apart(5, 0), the most", x.apart(5, 0), 5);
        due.answered(x, "apart(0, 1)", x.apart(0, 1), 1);
        due.answered(x, "apart(3, 3), the least", x.apart(3, 3), 0);
        x.die(2);
        due.answered(x, "apart(0, 5) by a dead one's house", x.apart(0, 5), 5);
        due.answered(x, "apart(2, 2), dead", x.apart(2, 2), 0);
        LastAsked y = due.city(row + ";near a f", 6);
        due.answered(y, "apart(0, 5), round", y.apart(0, 5), 1);
        due.answered(y, "apart(0, 3), round", y.apart(0, 3), 3);
        due.answered(y, "apart(1, 5), round", y.apart(1, 5), 2);
        LastAsked z = due.city(HEAD + Edges.people(4, "plain", 9, 0) + ";near a b;near c d", 4);
        due.answered(z, "apart(0, 2): no way", z.apart(0, 2), -2);
        due.answered(z, "apart(3, 1): no way", z.apart(3, 1), -2);

        due.sentence(27, "NONE: 1.");
        due.bounds(x, "apart(p, 0)", p -> x.apart(p, 0), 0, 5, 1);
        due.bounds(x, "apart(0, other)", other -> x.apart(0, other), 0, 5, 1);
        due.refused(x, "apart(6, 6)", x.apart(6, 6), 1);
        LastAsked none = new LastAsked();
        due.refused(none, "apart(0, 0) without a CITY", none.apart(0, 0), 1);
    }

    private static void toAsk(Edges due) {
        due.sentence(28, "Of those he can ASK, whose HEIR he isn't yet, who HAS most, the first such; -2 nobody.");
        LastAsked x = due.city(NowEdges.CHAIN, 6);
        due.answered(x, "toAsk(0): all alike", x.toAsk(0), 1);
        due.answered(x, "toAsk(1): he is a's HEIR", x.toAsk(1), 2);
        due.answered(x, "toAsk(5)", x.toAsk(5), 0);
        due.is("toAsk(0) of one person", due.city(ALONE, 1).toAsk(0), -2);
        LastAsked y = due.city(HEAD + ";person a plain has 1 dies 0;person b plain has 0 dies 0;person c shut has 99 dies 0"
            + ";person d walled has 99 dies 0;person e doctor has 1 dies 0;near d c", 5);
        due.answered(y, "toAsk(0)", y.toAsk(0), 4);
        y.ask(0, 4);
        due.answered(y, "toAsk(0): b has nothing, but can be asked", y.toAsk(0), 1);
        y.ask(0, 1);
        due.answered(y, "toAsk(0): HEIR of all he can ask", y.toAsk(0), -2);
        due.answered(y, "toAsk(2): a walled one near", y.toAsk(2), 3);
        due.answered(y, "toAsk(4): a doctor", y.toAsk(4), -2);
        due.answered(y, "toAsk(1): who has most", y.toAsk(1), 0);
        y.die(0);
        due.answered(y, "toAsk(0), dead", y.toAsk(0), -2);
        due.answered(y, "toAsk(1): the dead aren't asked", y.toAsk(1), 4);

        due.sentence(28, "NONE: 1.");
        due.bounds(x, "toAsk(p)", p -> x.toAsk(p), 0, 5, 1);
        LastAsked none = new LastAsked();
        due.refused(none, "toAsk(0) without a CITY", none.toAsk(0), 1);
    }

    private static void rivals(Edges due) {
        due.sentence(29, "RIVALS, as bits; -2 he never asked him, or is dead.");
        LastAsked x = due.city(HEAD + Edges.people(6, "plain", 9, 0) + ";asked b a at 0;asked c a at 0;asked d a at 0"
            + ";asked e a at 0;asked f a at 0;asked a f at 0;asked b f at 1;asked c f at 9", 6);
        due.answered(x, "rivals(5, 0): of like hours all ahead of him", x.rivals(5, 0), 30);
        due.answered(x, "rivals(1, 0), none", x.rivals(1, 0), 0);
        due.answered(x, "rivals(3, 0)", x.rivals(3, 0), 6);
        due.answered(x, "rivals(0, 5): later ones", x.rivals(0, 5), 6);
        due.answered(x, "rivals(2, 5), the latest", x.rivals(2, 5), 0);
        x.ask(0, 5);
        due.answered(x, "rivals(2, 5): a asked later", x.rivals(2, 5), 1);
        x.undo();
        due.answered(x, "rivals(3, 5), never", x.rivals(3, 5), -2);
        x.die(2);
        due.answered(x, "rivals(5, 0) without a dead one", x.rivals(5, 0), 26);
        due.answered(x, "rivals(2, 5), he is dead", x.rivals(2, 5), -2);
        due.answered(x, "rivals(2, 1), dead and never", x.rivals(2, 1), -2);
        x.ask(5, 0);
        due.answered(x, "rivals(5, 0), asked again", x.rivals(5, 0), 0);
        due.answered(x, "rivals(1, 0)", x.rivals(1, 0), 32);

        due.sentence(29, "NONE: 1 (unlike); 5 (the one to inherit of is dead).");
        due.bounds(x, "rivals(p, 3)", p -> p == 3 ? 0 : x.rivals(p, 3), 0, 5, 1);
        due.bounds(x, "rivals(3, of)", of -> x.rivals(3, of), 0, 5, 1);
        due.refused(x, "rivals(1, 1)", x.rivals(1, 1), 1);
        due.refused(x, "rivals(2, 2): 1 ahead of 5", x.rivals(2, 2), 1);
        due.refused(x, "rivals(6, 2): 1 ahead of 5", x.rivals(6, 2), 1);
        due.refused(x, "rivals(0, 2), dead", x.rivals(0, 2), 5);
        x.die(3);
        due.refused(x, "rivals(3, 2), both dead", x.rivals(3, 2), 5);
        LastAsked none = new LastAsked();
        due.refused(none, "rivals(0, 1) without a CITY", none.rivals(0, 1), 1);
    }
}

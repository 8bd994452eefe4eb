/** Promises 30 to 41: hours that aren't sure, rich and beggar, nights by draws. */
public final class HoursTest {
    private static final String THREE = ";person a plain has 1 dies 0;person b plain has 2 dies 0;person c plain has 4 dies 0";

    private static void fits(Due due) {
        LastAsked x = due.city(NowTest.BASE, 5);
        due.answered(x, "fits()", x.fits(), 3);
        for (int i = 0; i < 3; i++) {
            due.answered(x, "fitAt(" + i + ", 0)", x.fitAt(i, 0), 3 + i);
        }
        due.refused(x, "fitAt(3, 0)", x.fitAt(3, 0), 1);
        due.refused(x, "fitAt(-1, 0)", x.fitAt(-1, 0), 1);
        due.refused(x, "fitAt(0, 1)", x.fitAt(0, 1), 1);
        due.refused(x, "fitAt(0, -1)", x.fitAt(0, -1), 1);
        due.answered(x, "heirBy(0, 3)", x.heirBy(0, 3), 3);
        due.answered(x, "heirBy(0, 1)", x.heirBy(0, 1), 0);
        due.refused(x, "heirBy(1, 1)", x.heirBy(1, 1), 1);
        due.refused(x, "heirBy(5, 1)", x.heirBy(5, 1), 1);
        due.answered(x, "look()", x.look(), 0);
        due.answered(x, "lookLeaves()", x.lookLeaves(), 1);
        due.answered(x, "judge()", x.judge(), -2);
        // What happens later doesn't matter.
        x.ask(0, 1);
        x.die(0);
        due.is("fits() later", x.fits(), 3);
        due.is("heirBy(0, 3) later", x.heirBy(0, 3), 3);
        due.is("judge() later", x.judge(), -2);
        LastAsked y = new LastAsked();
        due.refused(y, "fits()", y.fits(), 1);
        due.refused(y, "fitAt(0, 0)", y.fitAt(0, 0), 1);
        due.refused(y, "heirBy(0, 1)", y.heirBy(0, 1), 1);
        due.refused(y, "look()", y.look(), 1);
        due.refused(y, "lookLeaves()", y.lookLeaves(), 1);
        due.refused(y, "judge()", y.judge(), 1);
    }

    /** Two who asked a: c is the heir by later hours alone, as b is the first by numbers. */
    private static void twoHeard(Due due) {
        LastAsked x = due.city("city hour 5 gives 0" + THREE
            + ";heard b a at 1 give 2;heard c a at 2 give 1;went a c", 3);
        // b at 0 .. 3, c at 1 .. 3: (0; 1, 2, 3), (1; 2, 3), (2; 3)
        due.is("fits()", x.fits(), 6);
        int[][] rows = {{0, 1}, {0, 2}, {0, 3}, {1, 2}, {1, 3}, {2, 3}};
        for (int i = 0; i < 6; i++) {
            due.is("fitAt(" + i + ", 0)", x.fitAt(i, 0), rows[i][0]);
            due.is("fitAt(" + i + ", 1)", x.fitAt(i, 1), rows[i][1]);
        }
        due.refused(x, "fitAt(6, 1)", x.fitAt(6, 1), 1);
        due.refused(x, "fitAt(0, 2)", x.fitAt(0, 2), 1);
        due.is("look(): the first such", x.look(), 0);
        due.is("lookLeaves()", x.lookLeaves(), 3);
        due.is("judge(): heard at the hour told", x.judge(), -2);
        due.is("heirBy(2, 0)", x.heirBy(2, 0), 6);
        LastAsked y = due.city("city hour 5 gives 0" + THREE
            + ";heard b a at 5 give 1;heard c a at 5 give 2;went a c;went b cat", 3);
        // Behind the hour of the city, too: b 4 .. 6, c 3 .. 7.
        due.is("fits() behind the city's hour", y.fits(), 6);
        due.is("fitAt(5, 0)", y.fitAt(5, 0), 6);
        due.is("fitAt(5, 1)", y.fitAt(5, 1), 7);
        due.is("judge()", y.judge(), 0);
        due.is("look(): the second leaves as many", y.look(), 0);
        LastAsked z = due.city("city hour 5 gives 0" + THREE
            + ";heard b a at 5 give 0;heard c a at 4 give 3;heard a b at 3 give 1", 3);
        due.is("fits() without went", z.fits(), 21);
        due.is("look()", z.look(), 1);
        due.is("lookLeaves()", z.lookLeaves(), 3);
        due.is("heirBy(2, 0)", z.heirBy(2, 0), 6);
        due.is("heirBy(1, 0)", z.heirBy(1, 0), 15);
    }

    private static void noFits(Due due) {
        LastAsked x = due.city("city hour 5 gives 0" + THREE + ";heard b a at 1 give 2;went c b;went b a", 3);
        due.answered(x, "fits()", x.fits(), 0);
        due.refused(x, "fitAt(0, 0)", x.fitAt(0, 0), 1);
        due.answered(x, "look()", x.look(), -2);
        due.answered(x, "lookLeaves()", x.lookLeaves(), -2);
        due.is("heirBy(1, 0)", x.heirBy(1, 0), 0);
        due.is("judge(): the first by numbers", x.judge(), 1);
        LastAsked y = due.city("city hour 5 gives 0" + THREE + ";went a cat", 3);
        due.is("fits(): nothing heard", y.fits(), 1);
        due.refused(y, "fitAt(0, 0)", y.fitAt(0, 0), 1);
        due.answered(y, "look(): nothing heard", y.look(), -2);
        due.answered(y, "lookLeaves(): nothing heard", y.lookLeaves(), -2);
        LastAsked z = due.city("city hour 9 gives 0" + THREE
            + ";heard a b at 5 give 3;heard b c at 6 give 3;heard c a at 9 give 3", 3);
        due.is("fits() of most", z.fits(), 343);
        due.is("fitAt(342, 2)", z.fitAt(342, 2), 12);
        due.is("fitAt(49, 0)", z.fitAt(49, 0), 3);
        due.is("lookLeaves() of most", z.lookLeaves(), 49);
    }

    private static void richAndBeggar(Due due) {
        LastAsked x = due.city(NowTest.BASE, 5);
        for (int shame = 0; shame <= 9; shame++) {
            due.answered(x, "begs: asked and given, rich", x.begs(shame, true, true, false), -2);
            due.answered(x, "begs: asked and given, beggar", x.begs(shame, true, true, true), 4);
            due.answered(x, "begs: asked, shut, rich", x.begs(shame, false, true, false), -shame);
            due.answered(x, "begs: asked, shut, beggar", x.begs(shame, false, true, true), -1);
            due.answered(x, "begs: ready to give, rich", x.begs(shame, true, false, false), 1);
            due.answered(x, "begs: ready to give, beggar", x.begs(shame, true, false, true), 0);
            due.answered(x, "begs: nothing, rich", x.begs(shame, false, false, false), 0);
            due.answered(x, "begs: nothing, beggar", x.begs(shame, false, false, true), 0);
            due.answered(x, "rests(" + shame + ")", x.rests(shame), shame >= 2 ? 1 : 0);
            due.answered(x, "rest(" + shame + ")", x.rest(shame), shame >= 2 ? 11 : -2);
        }
        for (int shame : new int[] {-1, 10}) {
            due.is("begs(" + shame + ")", x.begs(shame, true, true, true), -100);
            due.is("trouble()", x.trouble(), 2);
            due.refused(x, "rests(" + shame + ")", x.rests(shame), 2);
            due.refused(x, "rest(" + shame + ")", x.rest(shame), 2);
        }
        LastAsked y = new LastAsked();
        due.is("begs(10)", y.begs(10, true, true, true), -100);
        due.is("trouble()", y.trouble(), 1);
        due.refused(y, "rests(0)", y.rests(0), 1);
        due.refused(y, "rest(0)", y.rest(0), 1);
    }

    /** From SEED 0 the DRAWS mod 100 are 74, 24, 52, 90, 41, 9. */
    static final String DRAWN = "city hour 5 gives 3;person a plain has 10 dies 75;person b plain has 20 dies 25"
        + ";person c plain has 30 dies 52;person d plain has 40 dies 90;asked b a at 1;asked c b at 2;asked d c at 3";

    private static void nights(Due due) {
        LastAsked x = due.city(DRAWN, 4);
        int[] once = {0, 0, 60, 40};
        for (int p = 0; p < 4; p++) {
            due.answered(x, "nights(" + p + ", 0, 1)", x.nights(p, 0, 1), once[p]);
            due.answered(x, "nights(" + p + ", 0, 0)", x.nights(p, 0, 0), 10 + 10 * p);
            due.answered(x, "nights(" + p + ", 0, 2)", x.nights(p, 0, 2), 0);
        }
        due.answered(x, "lives(0, 0)", x.lives(0, 0), 15);
        due.answered(x, "lives(0, 1)", x.lives(0, 1), 12);
        due.answered(x, "lives(0, 2)", x.lives(0, 2), 0);
        due.answered(x, "lives(0, 60)", x.lives(0, 60), 0);
        due.answered(x, "firstCat(0, 1)", x.firstCat(0, 1), -2);
        due.answered(x, "firstCat(0, 2)", x.firstCat(0, 2), 2);
        due.answered(x, "firstCat(0, 60)", x.firstCat(0, 60), 2);
        due.answered(x, "firstCat(0, 0)", x.firstCat(0, 0), -2);
        // 65,536 is 1 less than 0 mod 65,537, and stays so: each DRAW mod 100 is 36.
        due.answered(x, "lives(65536, 1)", x.lives(65536, 1), 2);
        due.is("size(7): nobody died", x.size(7), 4);
        due.is("size(9): SEED stays", x.size(9), 0);
        due.refused(x, "nights(4, 0, 0)", x.nights(4, 0, 0), 1);
        due.refused(x, "nights(4, -1, 0)", x.nights(4, -1, 0), 1);
        due.refused(x, "nights(0, -1, 0)", x.nights(0, -1, 0), 2);
        due.refused(x, "nights(0, 65537, 0)", x.nights(0, 65537, 0), 2);
        due.refused(x, "nights(0, 0, 61)", x.nights(0, 0, 61), 2);
        due.refused(x, "nights(0, 0, -1)", x.nights(0, 0, -1), 2);
        due.refused(x, "lives(-1, 0)", x.lives(-1, 0), 2);
        due.refused(x, "lives(65537, 0)", x.lives(65537, 0), 2);
        due.refused(x, "lives(0, 61)", x.lives(0, 61), 2);
        due.refused(x, "lives(0, -1)", x.lives(0, -1), 2);
        due.refused(x, "firstCat(65537, 0)", x.firstCat(65537, 0), 2);
        due.refused(x, "firstCat(0, 61)", x.firstCat(0, 61), 2);
        x.die(3);
        due.is("cat()", x.cat(), 40);
        due.is("firstCat(0, 5): more than NOW", x.firstCat(0, 5), 3);
        due.is("nights(3, 0, 1), dead", x.nights(3, 0, 1), 0);
        LastAsked y = new LastAsked();
        due.refused(y, "nights(0, 0, 0)", y.nights(0, 0, 0), 1);
        due.refused(y, "lives(0, 61)", y.lives(0, 61), 1);
        due.refused(y, "firstCat(0, 0)", y.firstCat(0, 0), 1);
    }

    public static void main(String[] args) {
        Due due = new Due();
        fits(due);
        twoHeard(due);
        noFits(due);
        richAndBeggar(due);
        nights(due);
        due.end();
    }
}

/** The edges of promises 30 to 41: hours that aren't sure, rich and beggar, nights by draws. */
final class HoursEdges {
    private static final String THREE = "city hour 9 gives 0" + Edges.people(3, "plain", 1, 50);
    /** Three heard ones, each with seven hours. */
    private static final String MOST = THREE + ";heard a b at 9 give 3;heard b c at 3 give 3;heard c a at 5 give 3";
    /** b asked a at 3 .. 7, c at 6: b is a's HEIR from 6 on, as he is the first by numbers. */
    private static final String DOUBT = THREE + ";heard b a at 5 give 2;asked c a at 6";
    private static final String ALONE = "city hour 0 gives 0;person a plain has 0 dies 0";
    /** By SEED 183 the 60th DRAW is the first one below 1 mod 100; by SEED 147 it is the 61st. */
    private static final String LATE = "city hour 5 gives 3;person a plain has 7 dies 1";
    private static final int SIXTIETH = 183;
    private static final int SIXTY_FIRST = 147;

    static void all(Edges due) {
        fits(due);
        fitAt(due);
        heirBy(due);
        look(due);
        lookLeaves(due);
        judge(due);
        begs(due);
        rests(due);
        rest(due);
        nights(due);
        draws(due);
        lives(due);
        firstCat(due);
    }

    private static void fits(Edges due) {
        due.sentence(30, "FITS: hours of all heard ones (each within the given, 0 at least) by which all went where it "
            + "was told, all else as told at first: all such.");
        int[][] rows = {{0, 0, 1}, {0, 1, 2}, {0, 3, 4}, {1, 3, 5}, {2, 3, 6}, {3, 3, 7}, {9, 0, 1}, {9, 3, 7}};
        for (int[] row : rows) {
            String text = THREE + ";heard b a at " + row[0] + " give " + row[1];
            due.is("fits() of '" + text + "'", due.city(text, 3).fits(), row[2]);
        }
        due.is("fits(), the most", due.city(MOST, 3).fits(), 343);
        due.is("fits(): nothing heard", due.city(ALONE, 1).fits(), 1);
        due.is("fits(): nothing heard, it went as told", due.city(THREE + ";went a cat", 3).fits(), 1);
        due.is("fits(): nothing heard, it went otherwise", due.city(THREE + ";went a b", 3).fits(), 0);
        due.is("fits() of any", due.city(DOUBT, 3).fits(), 5);
        due.is("fits() by b", due.city(DOUBT + ";went a b", 3).fits(), 2);
        due.is("fits() by c", due.city(DOUBT + ";went a c", 3).fits(), 3);
        due.is("fits() by the cat", due.city(DOUBT + ";went a cat", 3).fits(), 0);
        due.is("fits(): one of two went otherwise", due.city(DOUBT + ";went a b;went b c", 3).fits(), 0);
        LastAsked x = due.city(DOUBT + ";went a b", 3);
        x.ask(2, 0);
        x.die(1);
        due.answered(x, "fits() behind ACTS", x.fits(), 2);
        LastAsked again = due.city(MOST, 3);
        due.answered(again, "fits()", again.fits(), 343);
        Due.feedAll(again, DOUBT);
        again.city(DOUBT.length());
        due.answered(again, "fits() of the next CITY: nothing of the first is left", again.fits(), 5);
        Due.feedAll(again, THREE);
        again.city(THREE.length());
        due.answered(again, "fits() of the next CITY, in which nothing is heard", again.fits(), 1);

        due.sentence(30, "NONE: 1 (no CITY).");
        LastAsked none = new LastAsked();
        due.refused(none, "fits()", none.fits(), 1);
    }

    private static void fitAt(Edges due) {
        due.sentence(31, "The hour of the k-th heard ask by the i-th (the first one counts most, earlier hours first).");
        LastAsked x = due.city(MOST, 3);
        int[][] rows = {{0, 6, 0, 2}, {1, 6, 0, 3}, {6, 6, 0, 8}, {7, 6, 1, 2}, {48, 6, 6, 8}, {49, 7, 0, 2}, {342, 12, 6, 8}};
        for (int[] row : rows) {
            for (int k = 0; k < 3; k++) {
                due.answered(x, "fitAt(" + row[0] + ", " + k + ")", x.fitAt(row[0], k), row[1 + k]);
            }
        }
        LastAsked y = due.city(DOUBT + ";went a b", 3);
        due.answered(y, "fitAt(0, 0): the first that fits", y.fitAt(0, 0), 6);
        due.answered(y, "fitAt(1, 0)", y.fitAt(1, 0), 7);
        LastAsked low = due.city(THREE + ";heard b a at 1 give 3", 3);
        due.answered(low, "fitAt(0, 0): 0 at least", low.fitAt(0, 0), 0);

        due.sentence(31, "NONE: 1 (i, k, too).");
        due.bounds(x, "fitAt(i, 0)", i -> x.fitAt(i, 0), 0, 342, 1);
        due.bounds(x, "fitAt(0, k)", k -> x.fitAt(0, k), 0, 2, 1);
        due.bounds(y, "fitAt(i, 0) of two", i -> y.fitAt(i, 0), 0, 1, 1);
        due.bounds(y, "fitAt(0, k) of one", k -> y.fitAt(0, k), 0, 0, 1);
        LastAsked unheard = due.city(ALONE, 1);
        due.refused(unheard, "fitAt(0, 0): nothing heard", unheard.fitAt(0, 0), 1);
        LastAsked unfit = due.city(DOUBT + ";went a cat", 3);
        due.refused(unfit, "fitAt(0, 0): no FITS", unfit.fitAt(0, 0), 1);
        LastAsked none = new LastAsked();
        due.refused(none, "fitAt(0, 0) without a CITY", none.fitAt(0, 0), 1);
    }

    private static void heirBy(Edges due) {
        due.sentence(32, "By how many of them one were HEIR at first.");
        LastAsked x = due.city(DOUBT, 3);
        due.answered(x, "heirBy(1, 0)", x.heirBy(1, 0), 2);
        due.answered(x, "heirBy(2, 0)", x.heirBy(2, 0), 3);
        due.answered(x, "heirBy(0, 1), none", x.heirBy(0, 1), 0);
        x.ask(0, 1);
        x.die(2);
        due.answered(x, "heirBy(0, 1) behind an ASK", x.heirBy(0, 1), 0);
        due.answered(x, "heirBy(2, 0) behind his death", x.heirBy(2, 0), 3);
        due.is("heirBy(1, 0), as fits", due.city(DOUBT + ";went a b", 3).heirBy(1, 0), 2);
        due.is("heirBy(2, 0), as fits", due.city(DOUBT + ";went a b", 3).heirBy(2, 0), 0);
        due.is("heirBy(1, 0): no FITS", due.city(DOUBT + ";went a cat", 3).heirBy(1, 0), 0);
        due.is("heirBy(0, 1), the most", due.city(MOST, 3).heirBy(0, 1), 343);
        due.is("heirBy(1, 0): nothing heard", due.city(THREE + ";asked b a at 0", 3).heirBy(1, 0), 1);

        due.sentence(32, "NONE: 1 (unlike).");
        due.bounds(x, "heirBy(p, 1)", p -> x.heirBy(p, 1), 0, 2, 1);
        due.bounds(x, "heirBy(1, of)", of -> x.heirBy(1, of), 0, 2, 1);
        due.refused(x, "heirBy(0, 0)", x.heirBy(0, 0), 1);
        due.refused(x, "heirBy(2, 2)", x.heirBy(2, 2), 1);
        LastAsked none = new LastAsked();
        due.refused(none, "heirBy(0, 1) without a CITY", none.heirBy(0, 1), 1);
    }

    private static void look(Edges due) {
        due.sentence(33, "LOOK: the heard ask by which, its hour being told, at most fewest FITS are left, the first such.");
        due.is("look(): all alike", due.city(MOST, 3).look(), 0);
        String last = THREE + ";heard a b at 5 give 1;heard b c at 5 give 1;heard c a at 5 give 2";
        LastAsked again = due.city(last, 3);
        for (int i = 0; i < 3; i++) {
            due.answered(again, "look(): the last, however often", again.look(), 2);
        }
        String second = THREE + ";heard a b at 5 give 0;heard b c at 5 give 3;heard c a at 5 give 3";
        due.is("look(): the second, of like ones the first", due.city(second, 3).look(), 1);

        due.sentence(33, "LOOK (which heard one); -2 no FITS, nothing heard.");
        LastAsked x = due.city(DOUBT + ";went a cat", 3);
        due.answered(x, "look(): no FITS", x.look(), -2);
        LastAsked y = due.city(ALONE, 1);
        due.answered(y, "look(): nothing heard", y.look(), -2);
        LastAsked z = due.city(THREE + ";went a b", 3);
        due.answered(z, "look(): neither", z.look(), -2);
        LastAsked one = due.city(THREE + ";heard a b at 0 give 0", 3);
        due.answered(one, "look(): one heard, one FIT", one.look(), 0);

        due.sentence(33, "NONE: 1 (no CITY).");
        LastAsked none = new LastAsked();
        due.refused(none, "look()", none.look(), 1);
    }

    private static void lookLeaves(Edges due) {
        due.sentence(34, "How many are left at most then; -2 likewise.");
        due.is("lookLeaves(), the most", due.city(MOST, 3).lookLeaves(), 49);
        LastAsked again = due.city(MOST, 3);
        for (int i = 0; i < 3; i++) {
            due.answered(again, "lookLeaves(), again", again.lookLeaves(), 49);
        }
        Due.feedAll(again, DOUBT);
        again.city(DOUBT.length());
        due.answered(again, "lookLeaves() of the next CITY", again.lookLeaves(), 1);
        due.is("lookLeaves() of one heard", due.city(DOUBT, 3).lookLeaves(), 1);
        due.is("lookLeaves() of one FIT", due.city(THREE + ";heard a b at 0 give 0", 3).lookLeaves(), 1);
        String last = THREE + ";heard a b at 5 give 1;heard b c at 5 give 1;heard c a at 5 give 2";
        due.is("lookLeaves() of 3, 3 and 5 hours", due.city(last, 3).lookLeaves(), 9);
        // b at 4 .. 6, c at 4 .. 6, b later or alike: (4; 4), (5; 4, 5), (6; 4, 5, 6)
        String rest = THREE + ";heard b a at 5 give 1;heard c a at 5 give 1;went a b";
        due.is("lookLeaves(): the most of them, not the fewest", due.city(rest, 3).lookLeaves(), 3);
        LastAsked x = due.city(DOUBT + ";went a cat", 3);
        due.answered(x, "lookLeaves(): no FITS", x.lookLeaves(), -2);
        LastAsked y = due.city(ALONE, 1);
        due.answered(y, "lookLeaves(): nothing heard", y.lookLeaves(), -2);

        due.sentence(34, "NONE: 1 (no CITY).");
        LastAsked none = new LastAsked();
        due.refused(none, "lookLeaves()", none.lookLeaves(), 1);
    }

    private static void judge(Edges due) {
        due.sentence(35, "The first person, by numbers, of whom it went otherwise than told, heard ones at the hour told; -2.");
        due.is("judge(): nothing told", due.city(ALONE, 1).judge(), -2);
        due.is("judge(): as told", due.city(DOUBT + ";went a c;went b cat;went c cat", 3).judge(), -2);
        due.is("judge(): at the hour told, though it could fit", due.city(DOUBT + ";went a b", 3).judge(), 0);
        due.is("judge(): by numbers", due.city(DOUBT + ";went c b;went b a;went a c", 3).judge(), 1);
        due.is("judge(): the last one", due.city(DOUBT + ";went c b;went a c", 3).judge(), 2);
        due.is("judge(): to the cat, though one asked", due.city(DOUBT + ";went a cat", 3).judge(), 0);
        LastAsked x = due.city(DOUBT + ";went a c", 3);
        x.ask(1, 0);
        x.die(2);
        due.answered(x, "judge() behind ACTS", x.judge(), -2);

        due.sentence(35, "NONE: 1 (no CITY).");
        LastAsked none = new LastAsked();
        due.refused(none, "judge()", none.judge(), 1);
    }

    private static void begs(Edges due) {
        due.sentence(36, "asked and given: 2 less, 4; asked, shut: 0 less shame, 0 less 1; not asked, ready to give: 1, "
            + "0; not asked, shut: 0, 0.");
        LastAsked x = due.city(ALONE, 1);
        for (int shame = 0; shame <= 9; shame += 9) {
            due.answered(x, "begs: asked and given, rich", x.begs(shame, true, true, false), -2);
            due.answered(x, "begs: asked and given, beggar", x.begs(shame, true, true, true), 4);
            due.answered(x, "begs: asked, shut, rich", x.begs(shame, false, true, false), -shame);
            due.answered(x, "begs: asked, shut, beggar", x.begs(shame, false, true, true), -1);
            due.answered(x, "begs: not asked, ready, rich", x.begs(shame, true, false, false), 1);
            due.answered(x, "begs: not asked, ready, beggar", x.begs(shame, true, false, true), 0);
            due.answered(x, "begs: not asked, shut, rich", x.begs(shame, false, false, false), 0);
            due.answered(x, "begs: not asked, shut, beggar", x.begs(shame, false, false, true), 0);
        }

        due.sentence(36, "-100: 1 (no CITY); 2.");
        due.bounds(x, "begs(shame, ..)", shame -> refusedBegs(x, shame), 0, 9, 2);
        LastAsked none = new LastAsked();
        due.refused(none, "begs(0, ..)", refusedBegs(none, 0), 1);
        due.refused(none, "begs(10, ..): 1 ahead of 2", refusedBegs(none, 10), 1);
    }

    /** NONE, if all ways of it answer -100. */
    private static int refusedBegs(LastAsked x, int shame) {
        boolean all = true;
        for (int way = 0; way < 8; way++) {
            all &= x.begs(shame, (way & 1) != 0, (way & 2) != 0, (way & 4) != 0) == -100;
        }
        return all ? LastAsked.NONE : 0;
    }

    private static void rests(Edges due) {
        due.sentence(37, "How many RESTS.");
        LastAsked x = due.city(ALONE, 1);
        for (int shame = 0; shame <= 9; shame++) {
            due.answered(x, "rests(" + shame + ")", x.rests(shame), shame < 2 ? 0 : 1);
        }

        due.sentence(37, "NONE: 1 (no CITY); 2.");
        due.bounds(x, "rests(shame)", shame -> x.rests(shame), 0, 9, 2);
        LastAsked none = new LastAsked();
        due.refused(none, "rests(0)", none.rests(0), 1);
        due.refused(none, "rests(-1): 1 ahead of 2", none.rests(-1), 1);
    }

    private static void rest(Edges due) {
        due.sentence(38, "The first (shut ahead, then not asking): 10 if he gives, and 1 if the other one asks; -2.");
        LastAsked x = due.city(ALONE, 1);
        for (int shame = 0; shame <= 9; shame++) {
            due.answered(x, "rest(" + shame + ")", x.rest(shame), shame < 2 ? -2 : 11);
        }

        due.sentence(38, "NONE: likewise.");
        due.bounds(x, "rest(shame)", shame -> x.rest(shame), 0, 9, 2);
        LastAsked none = new LastAsked();
        due.refused(none, "rest(0)", none.rest(0), 1);
        due.refused(none, "rest(10): 1 ahead of 2", none.rest(10), 1);
    }

    private static void nights(Edges due) {
        due.sentence(39, "What one HAS behind n NIGHTS (0 .. 60) by a SEED (0 .. 65,536).");
        LastAsked x = due.city(LATE, 1);
        due.answered(x, "nights(0, s, 0)", x.nights(0, SIXTIETH, 0), 7);
        due.answered(x, "nights(0, s, 59)", x.nights(0, SIXTIETH, 59), 7);
        due.answered(x, "nights(0, s, 60)", x.nights(0, SIXTIETH, 60), 0);
        due.answered(x, "nights(0, t, 60)", x.nights(0, SIXTY_FIRST, 60), 7);
        due.answered(x, "nights(0, 65536, 60): 36 for ever", x.nights(0, 65536, 60), 7);
        due.is("size(9): SEED stays", x.size(9), 0);
        due.is("size(8): no NIGHT went by", x.size(8), 0);
        LastAsked y = due.city(NowEdges.CHAIN, 6);
        due.answered(y, "nights(5, 0, 0)", y.nights(5, 0, 0), 99);
        due.answered(y, "nights(5, 0, 1): all die", y.nights(5, 0, 1), 0);
        y.die(0);
        due.answered(y, "nights(0, 0, 0), dead", y.nights(0, 0, 0), 0);
        due.answered(y, "nights(1, 0, 0): from NOW on", y.nights(1, 0, 0), 198);

        due.sentence(39, "NONE: 1; 2.");
        due.bounds(y, "nights(p, 0, 0)", p -> y.nights(p, 0, 0), 0, 5, 1);
        due.bounds(y, "nights(0, seed, 60)", seed -> y.nights(0, seed, 60), 0, 65536, 2);
        due.bounds(y, "nights(0, 65536, n)", n -> y.nights(0, 65536, n), 0, 60, 2);
        due.refused(y, "nights(6, -1, -1): 1 ahead of 2", y.nights(6, -1, -1), 1);
        LastAsked none = new LastAsked();
        due.refused(none, "nights(0, 0, 0) without a CITY", none.nights(0, 0, 0), 1);
    }

    /** Whether one who dies by so many in a hundred lives behind one NIGHT. */
    private static int one(Edges due, int dies, int seed) {
        return due.city("city hour 5 gives 3;person a plain has 7 dies " + dies, 1).lives(seed, 1);
    }

    private static void draws(Edges due) {
        due.sentence(40, "for each who lives, by numbers, a DRAW mod 100: below his chance he dies, all at once (SEED "
            + "becomes (75 times SEED and 74) mod 65,537)");
        due.is("chance 74, DRAW 74", one(due, 74, 0), 1);
        due.is("chance 75, DRAW 74", one(due, 75, 0), 0);
        due.is("chance 0, DRAW 0", one(due, 0, 45438), 1);
        due.is("chance 1, DRAW 0: SEED comes to 0", one(due, 1, 45438), 0);
        due.is("chance 99, DRAW 299", one(due, 99, 3), 1);
        due.is("chance 100, DRAW 299", one(due, 100, 3), 0);
        due.is("chance 36, DRAW 65536", one(due, 36, 65536), 1);
        due.is("chance 37, DRAW 65536", one(due, 37, 65536), 0);
        due.is("chance 61, DRAW 65461", one(due, 61, 65535), 1);
        due.is("chance 62, DRAW 65461", one(due, 62, 65535), 0);
        // 74, 24; then 52, 90
        LastAsked x = due.city("city hour 5 gives 3;person a plain has 7 dies 74;person b plain has 8 dies 24;asked a b at 1", 2);
        due.answered(x, "lives(0, 1)", x.lives(0, 1), 3);
        due.answered(x, "lives(0, 2)", x.lives(0, 2), 2);
        LastAsked two = due.city("city hour 5 gives 3;person a plain has 7 dies 74;person b plain has 8 dies 25", 2);
        due.answered(two, "lives(0, 1): the second DRAW is b's", two.lives(0, 1), 1);
        two.die(0);
        due.answered(two, "lives(0, 1): the dead have no DRAW", two.lives(0, 1), 2);
        due.answered(two, "lives(0, 2)", two.lives(0, 2), 0);
        LastAsked y = due.city("city hour 5 gives 3;person a plain has 7 dies 75;person b plain has 8 dies 25"
            + ";person c plain has 9 dies 0;asked b a at 1;asked c b at 1;asked a c at 1", 3);
        due.answered(y, "nights(2, 0, 1): all at once, so on to c", y.nights(2, 0, 1), 24);
    }

    private static void lives(Edges due) {
        due.sentence(40, "Who lives then, as bits.");
        LastAsked x = due.city(LATE, 1);
        due.answered(x, "lives(s, 0)", x.lives(SIXTIETH, 0), 1);
        due.answered(x, "lives(s, 59)", x.lives(SIXTIETH, 59), 1);
        due.answered(x, "lives(s, 60)", x.lives(SIXTIETH, 60), 0);
        due.answered(x, "lives(t, 60)", x.lives(SIXTY_FIRST, 60), 1);
        LastAsked y = due.city(NowEdges.CHAIN, 6);
        due.answered(y, "lives(0, 0), the most", y.lives(0, 0), 63);
        due.answered(y, "lives(65536, 1), none", y.lives(65536, 1), 0);
        y.die(0);
        due.answered(y, "lives(0, 0): from NOW on", y.lives(0, 0), 62);
        due.is("size(7): NOW stays", y.size(7), 5);

        due.sentence(40, "NONE: 1 (no CITY); 2.");
        due.bounds(x, "lives(seed, 60)", seed -> x.lives(seed, 60), 0, 65536, 2);
        due.bounds(x, "lives(65536, n)", n -> x.lives(65536, n), 0, 60, 2);
        LastAsked none = new LastAsked();
        due.refused(none, "lives(0, 0)", none.lives(0, 0), 1);
        due.refused(none, "lives(-1, 61): 1 ahead of 2", none.lives(-1, 61), 1);
    }

    private static void firstCat(Edges due) {
        due.sentence(41, "Behind how many of them (1 .. n) the CAT first has more than NOW; -2.");
        LastAsked x = due.city(LATE, 1);
        due.answered(x, "firstCat(s, 60)", x.firstCat(SIXTIETH, 60), 60);
        due.answered(x, "firstCat(s, 59)", x.firstCat(SIXTIETH, 59), -2);
        due.answered(x, "firstCat(t, 60)", x.firstCat(SIXTY_FIRST, 60), -2);
        LastAsked y = due.city(NowEdges.CHAIN, 6);
        due.answered(y, "firstCat(0, 1)", y.firstCat(0, 1), 1);
        due.answered(y, "firstCat(0, 0): no NIGHT", y.firstCat(0, 0), -2);
        y.die(5);
        due.is("cat()", y.cat(), 99);
        due.answered(y, "firstCat(0, 0): more than NOW", y.firstCat(0, 0), -2);
        due.answered(y, "firstCat(0, 60)", y.firstCat(0, 60), 1);
        LastAsked poor = due.city("city hour 5 gives 3;person a plain has 0 dies 100;person b plain has 1 dies 0", 2);
        due.answered(poor, "firstCat(0, 60): of nothing it has no more", poor.firstCat(0, 60), -2);
        LastAsked heir = due.city("city hour 5 gives 3;person a plain has 1 dies 100;person b plain has 1 dies 1;asked b a at 5", 2);
        due.answered(heir, "firstCat(0, 9): b has it", heir.firstCat(0, 9), -2);
        LastAsked all = due.city("city hour 5 gives 3;person a plain has 9 dies 100", 1);
        all.night();
        due.answered(all, "firstCat(0, 60): nobody is left", all.firstCat(0, 60), -2);

        due.sentence(41, "NONE: 1 (no CITY); 2.");
        due.bounds(x, "firstCat(seed, 60)", seed -> x.firstCat(seed, 60), 0, 65536, 2);
        due.bounds(x, "firstCat(65536, n)", n -> x.firstCat(65536, n), 0, 60, 2);
        LastAsked none = new LastAsked();
        due.refused(none, "firstCat(0, 0)", none.firstCat(0, 0), 1);
        due.refused(none, "firstCat(65537, 0): 1 ahead of 2", none.firstCat(65537, 0), 1);
    }
}

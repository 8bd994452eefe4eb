/** The edges of promises 6 to 18: now, and dying at once. */
final class NowEdges {
    private static final String HEAD = "city hour 9 gives 1";
    private static final String ALONE = "city hour 0 gives 0;person a plain has 0 dies 0";
    /** a's HEIR is b, b's is c, up to f, whose HEIR is the CAT. */
    static final String CHAIN = HEAD + Edges.people(6, "plain", 99, 100) + Edges.chain(6);
    static final String ROUND = CHAIN + ";asked a f at 1";
    /** Each one's HEIR is a. */
    private static final String ALL_OF_A = HEAD + Edges.people(6, "plain", 99, 100)
        + ";asked a b at 0;asked a c at 0;asked a d at 0;asked a e at 0;asked a f at 0";
    private static final String KINDS = HEAD + ";person a plain has 1 dies 0;person b shut has 1 dies 0"
        + ";person c walled has 1 dies 0;person d doctor has 1 dies 0;person e plain has 1 dies 0"
        + ";person f walled has 1 dies 0;near c d;near c a;near b f";

    static void all(Edges due) {
        person(due);
        personAsks(due);
        register(due);
        heir(due);
        heirTo(due);
        hopes(due);
        cat(due);
        richest(due);
        goesTo(due);
        goesOn(due);
        hasThen(due);
        catThen(due);
        rounds(due);
        worthiest(due);
        plot(due);
    }

    private static void person(Edges due) {
        due.sentence(6, "Of a person 0 KIND (0 plain, 1 shut, 2 walled, 3 doctor), 1 what he HAS, 2 his chance to die, "
            + "3 1 if he lives, 4 those near, as bits");
        LastAsked x = due.city(KINDS, 6);
        int[] kinds = {0, 1, 2, 3, 0, 2};
        int[] near = {4, 32, 9, 4, 0, 2};
        for (int p = 0; p < 6; p++) {
            due.answered(x, "person(" + p + ", 0)", x.person(p, 0), kinds[p]);
            due.answered(x, "person(" + p + ", 4)", x.person(p, 4), near[p]);
        }
        x.die(2);
        due.answered(x, "person(2, 3) of a dead one", x.person(2, 3), 0);
        due.answered(x, "person(2, 1) of a dead one", x.person(2, 1), 0);
        due.answered(x, "person(2, 0) of a dead one", x.person(2, 0), 2);
        due.answered(x, "person(2, 4) of a dead one's house", x.person(2, 4), 9);
        due.answered(x, "person(0, 4) with a dead one's house", x.person(0, 4), 4);
        LastAsked y = due.city(ALL_OF_A + ";near a b;near a c;near a d;near e a;near f a", 6);
        due.answered(y, "person(0, 4), the most", y.person(0, 4), 62);
        due.answered(y, "person(5, 4)", y.person(5, 4), 1);
        due.answered(y, "person(5, 1), the most told", y.person(5, 1), 99);
        due.answered(y, "person(5, 2), the most", y.person(5, 2), 100);
        due.answered(y, "person(5, 3)", y.person(5, 3), 1);
        for (int p = 1; p < 6; p++) {
            y.die(p);
        }
        due.answered(y, "person(0, 1), the most", y.person(0, 1), 594);
        LastAsked z = due.city(ALONE, 1);
        due.answered(z, "person(0, 1), the least", z.person(0, 1), 0);
        due.answered(z, "person(0, 2), the least", z.person(0, 2), 0);
        due.answered(z, "person(0, 4), the least", z.person(0, 4), 0);

        due.sentence(6, "NONE: 1.");
        due.bounds(x, "person(p, 0)", p -> x.person(p, 0), 0, 5, 1);
        due.bounds(x, "person(0, what)", what -> x.person(0, what), 0, 6, 1);
        due.bounds(z, "person(p, 6) of one person", p -> z.person(p, 6), 0, 0, 1);
        LastAsked none = new LastAsked();
        due.refused(none, "person(0, 0) without a CITY", none.person(0, 0), 1);
    }

    private static void personAsks(Edges due) {
        due.sentence(6, "5 those whom he can ASK, as bits, 6 who can ASK him, as bits");
        LastAsked x = due.city(KINDS, 6);
        int[] whom = {28, 57, 25, 0, 9, 25};
        int[] who = {54, 0, 1, 55, 39, 2};
        for (int p = 0; p < 6; p++) {
            due.answered(x, "person(" + p + ", 5)", x.person(p, 5), whom[p]);
            due.answered(x, "person(" + p + ", 6)", x.person(p, 6), who[p]);
        }
        x.die(0);
        int[] whomNow = {0, 56, 24, 0, 8, 24};
        int[] whoNow = {0, 0, 0, 54, 38, 2};
        for (int p = 0; p < 6; p++) {
            due.answered(x, "person(" + p + ", 5) without a", x.person(p, 5), whomNow[p]);
            due.answered(x, "person(" + p + ", 6) without a", x.person(p, 6), whoNow[p]);
        }
        LastAsked y = due.city(CHAIN, 6);
        due.answered(y, "person(0, 5), the most", y.person(0, 5), 62);
        due.answered(y, "person(5, 6), the most", y.person(5, 6), 31);
        LastAsked z = due.city(ALONE, 1);
        due.answered(z, "person(0, 5), alone", z.person(0, 5), 0);
        due.answered(z, "person(0, 6), alone", z.person(0, 6), 0);
    }

    private static void register(Edges due) {
        due.sentence(7, "The hour at which one asked another one last; -2 never.");
        LastAsked x = due.city("city hour 99 gives 0" + Edges.people(3, "plain", 1, 0)
            + ";asked a b at 0;asked b a at 99;heard c a at 50 give 3", 3);
        due.answered(x, "register(0, 1), the least", x.register(0, 1), 0);
        due.answered(x, "register(1, 0), the greatest told", x.register(1, 0), 99);
        due.answered(x, "register(2, 0), heard", x.register(2, 0), 50);
        due.answered(x, "register(0, 2), never", x.register(0, 2), -2);
        x.ask(0, 2);
        due.answered(x, "register(0, 2), asked now", x.register(0, 2), 100);
        x.ask(0, 1);
        x.ask(0, 2);
        due.answered(x, "register(0, 2), last", x.register(0, 2), 102);
        due.answered(x, "register(2, 0): the other order", x.register(2, 0), 50);
        x.die(0);
        due.answered(x, "register(0, 2) of a dead one", x.register(0, 2), 102);
        due.answered(x, "register(2, 0) of a dead one", x.register(2, 0), 50);

        due.sentence(7, "NONE: 1 (unlike).");
        due.bounds(x, "register(p, 1)", p -> p == 1 ? x.register(0, 1) : x.register(p, 1), 0, 2, 1);
        due.bounds(x, "register(1, of)", of -> x.register(1, of), 0, 2, 1);
        due.refused(x, "register(0, 0)", x.register(0, 0), 1);
        due.refused(x, "register(2, 2)", x.register(2, 2), 1);
        LastAsked none = new LastAsked();
        due.refused(none, "register(0, 1) without a CITY", none.register(0, 1), 1);
    }

    private static void heir(Edges due) {
        due.sentence(8, "of those who live (not himself), the one who asked him at the latest hour; of like hours the "
            + "first by numbers; else the CAT");
        LastAsked x = due.city(HEAD + Edges.people(4, "plain", 1, 0)
            + ";asked d a at 5;asked b a at 4;asked c a at 5;asked a d at 0", 4);
        due.answered(x, "heir(0): of like hours the first", x.heir(0), 2);
        due.answered(x, "heir(3), asked at hour 0", x.heir(3), 0);
        due.answered(x, "heir(1), never asked", x.heir(1), -2);
        x.die(2);
        due.answered(x, "heir(0): c is dead", x.heir(0), 3);
        x.die(3);
        due.answered(x, "heir(0): d is dead", x.heir(0), 1);
        x.ask(1, 0);
        due.answered(x, "heir(0): b asked again", x.heir(0), 1);
        x.die(1);
        due.answered(x, "heir(0): all who asked are dead", x.heir(0), -2);
        due.is("heir(0) of one person", due.city(ALONE, 1).heir(0), -2);
        LastAsked y = due.city(HEAD + Edges.people(3, "plain", 1, 0) + ";asked b a at 9;asked c a at 8", 3);
        due.answered(y, "heir(0): the later hour, not the later number", y.heir(0), 1);
        y.ask(2, 0);
        due.answered(y, "heir(0): an ASK is later than all told", y.heir(0), 2);

        due.sentence(8, "NONE: 1; 5 (he is dead).");
        due.refused(x, "heir(1), dead", x.heir(1), 5);
        due.refused(x, "heir(4)", x.heir(4), 1);
        LastAsked z = due.city(CHAIN, 6);
        due.bounds(z, "heir(of)", of -> z.heir(of), 0, 5, 1);
        LastAsked none = new LastAsked();
        due.refused(none, "heir(0) without a CITY", none.heir(0), 1);
    }

    private static void heirTo(Edges due) {
        due.sentence(9, "Those who live, whose HEIR one is, as bits.");
        LastAsked x = due.city(ALL_OF_A, 6);
        due.answered(x, "heirTo(0), the most", x.heirTo(0), 62);
        due.answered(x, "heirTo(1), none", x.heirTo(1), 0);
        x.die(1);
        due.answered(x, "heirTo(0) without a dead one", x.heirTo(0), 60);
        x.ask(2, 5);
        due.answered(x, "heirTo(0) behind another's ASK", x.heirTo(0), 28);
        due.answered(x, "heirTo(2)", x.heirTo(2), 32);
        x.die(0);
        due.answered(x, "heirTo(0), dead himself", x.heirTo(0), 0);

        due.sentence(9, "NONE: 1.");
        due.bounds(x, "heirTo(p)", p -> x.heirTo(p), 0, 5, 1);
        LastAsked none = new LastAsked();
        due.refused(none, "heirTo(0) without a CITY", none.heirTo(0), 1);
    }

    private static void hopes(Edges due) {
        due.sentence(10, "What one would have if all whose HEIR he is died at once.");
        LastAsked x = due.city(ALL_OF_A, 6);
        due.answered(x, "hopes(0), the most", x.hopes(0), 594);
        due.answered(x, "hopes(5): nobody's HEIR", x.hopes(5), 99);
        x.die(3);
        due.answered(x, "hopes(0): of one he has it", x.hopes(0), 594);
        due.is("hopes(0) of one person", due.city(ALONE, 1).hopes(0), 0);
        LastAsked y = due.city(CHAIN, 6);
        due.answered(y, "hopes(5): e alone dies", y.hopes(5), 198);
        LastAsked z = due.city(ROUND, 6);
        due.answered(z, "hopes(0): f alone dies", z.hopes(0), 198);

        due.sentence(10, "NONE: 1; 5 (he is dead).");
        due.refused(x, "hopes(3), dead", x.hopes(3), 5);
        due.bounds(y, "hopes(p)", p -> y.hopes(p), 0, 5, 1);
        LastAsked none = new LastAsked();
        due.refused(none, "hopes(0) without a CITY", none.hopes(0), 1);
    }

    private static void cat(Edges due) {
        due.sentence(11, "What the CAT has so far.");
        LastAsked x = due.city(CHAIN, 6);
        due.answered(x, "cat(), the least", x.cat(), 0);
        x.die(0);
        due.answered(x, "cat(): b has it", x.cat(), 0);
        x.die(5);
        due.answered(x, "cat(): f had no HEIR", x.cat(), 99);
        for (int p = 1; p <= 4; p++) {
            x.die(p);
        }
        due.answered(x, "cat(), the most", x.cat(), 594);
        x.undo();
        due.answered(x, "cat() behind undo()", x.cat(), 99);
        x.night();
        due.answered(x, "cat() behind a NIGHT", x.cat(), 594);

        due.sentence(11, "NONE: 1 (no CITY).");
        LastAsked none = new LastAsked();
        due.refused(none, "cat()", none.cat(), 1);
    }

    private static void richest(Edges due) {
        due.sentence(12, "Who HAS most of those who live, the first such; -2 nobody lives.");
        LastAsked x = due.city(CHAIN, 6);
        due.answered(x, "richest(): all alike", x.richest(), 0);
        x.die(0);
        due.answered(x, "richest(): b has more", x.richest(), 1);
        x.die(1);
        x.die(2);
        x.die(3);
        x.die(4);
        due.answered(x, "richest(): f is left", x.richest(), 5);
        x.die(5);
        due.answered(x, "richest() of nobody", x.richest(), -2);
        LastAsked y = due.city(HEAD + Edges.people(3, "plain", 0, 0), 3);
        due.answered(y, "richest() with nothing", y.richest(), 0);
        y.die(0);
        due.answered(y, "richest() with nothing, a is dead", y.richest(), 1);
        LastAsked z = due.city(HEAD + ";person a plain has 4 dies 0;person b plain has 5 dies 0;person c plain has 5 dies 0", 3);
        due.answered(z, "richest(): the first such", z.richest(), 1);

        due.sentence(12, "NONE: 1 (no CITY).");
        LastAsked none = new LastAsked();
        due.refused(none, "richest()", none.richest(), 1);
    }

    private static void goesTo(Edges due) {
        due.sentence(13, "To whom all of one goes if some (as bits) die at once; -2 the CAT.");
        LastAsked x = due.city(CHAIN, 6);
        due.answered(x, "goesTo(0, 1)", x.goesTo(0, 1), 1);
        due.answered(x, "goesTo(0, 31), as far as it can", x.goesTo(0, 31), 5);
        due.answered(x, "goesTo(0, 63), all", x.goesTo(0, 63), -2);
        due.answered(x, "goesTo(0, 33): f dies, b doesn't", x.goesTo(0, 33), 1);
        due.answered(x, "goesTo(5, 32): no HEIR", x.goesTo(5, 32), -2);
        due.is("goesTo(0, 1) of one person", due.city(ALONE, 1).goesTo(0, 1), -2);
        due.is("size(7): nobody died", x.size(7), 6);

        due.sentence(13, "NONE: 1; 2 (no such set, one of it is dead, he isn't in it).");
        due.bounds(x, "goesTo(p, 63)", p -> x.goesTo(p, 63), 0, 5, 1);
        due.bounds(x, "goesTo(0, set)", set -> x.goesTo(0, set), 1, 63, 2);
        due.refused(x, "goesTo(6, 64): 1 ahead of 2", x.goesTo(6, 64), 1);
        due.refused(x, "goesTo(-1, 0): 1 ahead of 2", x.goesTo(-1, 0), 1);
        due.refused(x, "goesTo(0, 65): nobody there", x.goesTo(0, 65), 2);
        due.refused(x, "goesTo(0, least and 1)", x.goesTo(0, Integer.MIN_VALUE | 1), 2);
        due.refused(x, "goesTo(0, 62): he isn't in it", x.goesTo(0, 62), 2);
        due.refused(x, "goesTo(5, 31): he isn't in it", x.goesTo(5, 31), 2);
        x.die(3);
        due.refused(x, "goesTo(0, 9): d is dead", x.goesTo(0, 9), 2);
        due.refused(x, "goesTo(3, 8): he is dead", x.goesTo(3, 8), 2);
        LastAsked five = due.city(HEAD + Edges.people(5, "plain", 1, 0), 5);
        due.bounds(five, "goesTo(0, set) of five", set -> five.goesTo(0, set), 1, 31, 2);
        LastAsked none = new LastAsked();
        due.refused(none, "goesTo(0, 1) without a CITY", none.goesTo(0, 1), 1);
    }

    private static void goesOn(Edges due) {
        due.sentence(13, "each of them leaves all he has to the HEIR there was ahead (the dying ones lived); if that one "
            + "dies too, it goes on to his HEIR, and so on");
        LastAsked x = due.city(HEAD + Edges.people(4, "plain", 1, 0) + ";asked b a at 5;asked c a at 4;asked d b at 1", 4);
        due.answered(x, "goesTo(0, 3): b's HEIR, not the next who asked a", x.goesTo(0, 3), 3);
        due.answered(x, "goesTo(0, 11)", x.goesTo(0, 11), -2);
        x.die(1);
        due.answered(x, "goesTo(0, 1): b is dead ahead", x.goesTo(0, 1), 2);

        due.sentence(13, "if it comes round to one who had it, the CAT has it");
        LastAsked y = due.city(ROUND, 6);
        due.answered(y, "goesTo(2, 63)", y.goesTo(2, 63), -2);
        due.answered(y, "goesTo(2, 62): a lives", y.goesTo(2, 62), 0);
        due.answered(y, "goesTo(2, 61): b lives", y.goesTo(2, 61), 1);
        LastAsked two = due.city(HEAD + Edges.people(3, "plain", 1, 0) + ";asked a b at 1;asked b a at 1;asked a c at 1", 3);
        due.answered(two, "goesTo(0, 3)", two.goesTo(0, 3), -2);
        due.answered(two, "goesTo(2, 7): into the round", two.goesTo(2, 7), -2);
        due.answered(two, "goesTo(2, 5)", two.goesTo(2, 5), 1);
        due.answered(two, "goesTo(2, 6)", two.goesTo(2, 6), 0);
    }

    private static void hasThen(Edges due) {
        due.sentence(14, "What one would have then (0 if he is in it).");
        LastAsked x = due.city(CHAIN, 6);
        due.answered(x, "hasThen(0, 0): nobody dies", x.hasThen(0, 0), 99);
        due.answered(x, "hasThen(5, 31), the most", x.hasThen(5, 31), 594);
        due.answered(x, "hasThen(0, 1)", x.hasThen(0, 1), 0);
        due.answered(x, "hasThen(0, 63)", x.hasThen(0, 63), 0);
        due.answered(x, "hasThen(0, 62): nothing comes", x.hasThen(0, 62), 99);
        due.is("size(7): nobody died", x.size(7), 6);

        due.sentence(14, "NONE: 1; 5 (he is dead); 2 (no such set, one of it is dead).");
        due.bounds(x, "hasThen(p, 63)", p -> x.hasThen(p, 63), 0, 5, 1);
        due.bounds(x, "hasThen(0, set)", set -> x.hasThen(0, set), 0, 63, 2);
        due.refused(x, "hasThen(6, 64): 1 ahead of 2", x.hasThen(6, 64), 1);
        x.die(3);
        due.refused(x, "hasThen(0, 8): d is dead", x.hasThen(0, 8), 2);
        due.refused(x, "hasThen(3, 0): he is dead", x.hasThen(3, 0), 5);
        due.refused(x, "hasThen(3, 64): 5 ahead of 2", x.hasThen(3, 64), 5);
        due.refused(x, "hasThen(3, 8): 5 ahead of 2", x.hasThen(3, 8), 5);
        LastAsked none = new LastAsked();
        due.refused(none, "hasThen(0, 0) without a CITY", none.hasThen(0, 0), 1);
    }

    private static void catThen(Edges due) {
        due.sentence(15, "What the CAT would come to have by it, besides.");
        LastAsked x = due.city(CHAIN, 6);
        due.answered(x, "catThen(0)", x.catThen(0), 0);
        due.answered(x, "catThen(63), the most", x.catThen(63), 594);
        due.answered(x, "catThen(31)", x.catThen(31), 0);
        due.answered(x, "catThen(48)", x.catThen(48), 198);
        x.die(5);
        due.is("cat()", x.cat(), 99);
        due.answered(x, "catThen(16): besides", x.catThen(16), 99);
        due.answered(x, "catThen(0): besides", x.catThen(0), 0);
        LastAsked y = due.city(ROUND, 6);
        due.answered(y, "catThen(63) by a round", y.catThen(63), 594);
        due.answered(y, "catThen(62)", y.catThen(62), 0);

        due.sentence(15, "NONE: 1 (no CITY); 2.");
        due.bounds(y, "catThen(set)", set -> y.catThen(set), 0, 63, 2);
        due.refused(x, "catThen(32): f is dead", x.catThen(32), 2);
        LastAsked none = new LastAsked();
        due.refused(none, "catThen(0)", none.catThen(0), 1);
        due.refused(none, "catThen(-1): 1 ahead of 2", none.catThen(-1), 1);
    }

    private static void rounds(Edges due) {
        due.sentence(16, "Those who live, and from whose HEIR on, HEIR by HEIR, one comes back to themselves, as bits.");
        LastAsked x = due.city(ROUND, 6);
        due.answered(x, "rounds(), the most", x.rounds(), 63);
        x.die(0);
        due.answered(x, "rounds(): broken by a death", x.rounds(), 0);
        due.is("rounds() of a chain", due.city(CHAIN, 6).rounds(), 0);
        LastAsked y = due.city(HEAD + Edges.people(6, "plain", 1, 100) + ";asked a b at 1;asked b a at 1;asked c d at 1"
            + ";asked d c at 1;asked c e at 1;asked e f at 1", 6);
        due.answered(y, "rounds(): two, and two who lead into one", y.rounds(), 15);
        y.night();
        due.answered(y, "rounds() of nobody", y.rounds(), 0);
        due.is("rounds() of one person", due.city(ALONE, 1).rounds(), 0);

        due.sentence(16, "NONE: 1 (no CITY).");
        LastAsked none = new LastAsked();
        due.refused(none, "rounds()", none.rounds(), 1);
    }

    private static void worthiest(Edges due) {
        due.sentence(17, "The one by whose death alone somebody gets most, the first such; -2 nobody gets anything by one.");
        LastAsked x = due.city(CHAIN, 6);
        due.answered(x, "worthiest(): all alike", x.worthiest(), 0);
        x.die(0);
        due.answered(x, "worthiest(): b has more", x.worthiest(), 1);
        x.die(1);
        x.die(2);
        x.die(3);
        due.answered(x, "worthiest(): e leaves to f", x.worthiest(), 4);
        x.die(4);
        due.answered(x, "worthiest(): f leaves to the CAT", x.worthiest(), -2);
        x.die(5);
        due.answered(x, "worthiest() of nobody", x.worthiest(), -2);
        String nothing = HEAD + ";person a plain has 0 dies 0;person b plain has 0 dies 0;person c plain has 9 dies 0";
        due.is("worthiest(): nothing to get", due.city(nothing + ";asked a b at 1;asked b a at 1", 3).worthiest(), -2);
        String little = HEAD + ";person a plain has 0 dies 0;person b plain has 1 dies 0;person c plain has 9 dies 0";
        due.is("worthiest(): 1 is something", due.city(little + ";asked a b at 1;asked b a at 1", 3).worthiest(), 1);

        due.sentence(17, "NONE: 1 (no CITY).");
        LastAsked none = new LastAsked();
        due.refused(none, "worthiest()", none.worthiest(), 1);
    }

    private static void plot(Edges due) {
        due.sentence(18, "The fewest who must die at once that all of one goes to another one (both live; the one among "
            + "them, the other one not), as bits (of like ones the least); -2 by none.");
        LastAsked x = due.city(CHAIN, 6);
        due.answered(x, "plot(0, 1), the fewest", x.plot(0, 1), 1);
        due.answered(x, "plot(0, 5), the most", x.plot(0, 5), 31);
        due.answered(x, "plot(4, 5)", x.plot(4, 5), 16);
        due.answered(x, "plot(5, 0): the CAT has it", x.plot(5, 0), -2);
        due.answered(x, "plot(1, 0): it goes the other way", x.plot(1, 0), -2);
        LastAsked y = due.city(ROUND, 6);
        due.answered(y, "plot(5, 0)", y.plot(5, 0), 32);
        due.answered(y, "plot(1, 0)", y.plot(1, 0), 62);
        LastAsked z = due.city(HEAD + Edges.people(3, "plain", 0, 0) + ";asked a b at 1;asked b a at 1;asked a c at 1", 3);
        due.answered(z, "plot(2, 1), with nothing", z.plot(2, 1), 5);
        due.answered(z, "plot(0, 2): round and round", z.plot(0, 2), -2);

        due.sentence(18, "NONE: 1 (unlike, dead).");
        due.bounds(x, "plot(from, 1)", from -> from == 1 ? x.plot(0, 1) : x.plot(from, 1), 0, 5, 1);
        due.bounds(x, "plot(1, to)", to -> x.plot(1, to), 0, 5, 1);
        due.refused(x, "plot(0, 0)", x.plot(0, 0), 1);
        due.refused(x, "plot(5, 5)", x.plot(5, 5), 1);
        x.die(2);
        due.refused(x, "plot(2, 3), dead", x.plot(2, 3), 1);
        due.refused(x, "plot(1, 2), dead", x.plot(1, 2), 1);
        LastAsked none = new LastAsked();
        due.refused(none, "plot(0, 1) without a CITY", none.plot(0, 1), 1);
    }
}

import java.util.function.IntToLongFunction;

/** The edges of promises 42 to 51: ACTS, UNDO, IMAGES, and what is told. */
final class ActsEdges {
    private static final String ALONE = "city hour 0 gives 0;person a plain has 0 dies 0";
    private static final String TWO = "city hour 99 gives 0" + Edges.people(2, "plain", 1, 0);
    private static final String KINDS = "city hour 9 gives 9;person a plain has 0 dies 0;person b shut has 10 dies 0"
        + ";person c walled has 9 dies 0;person d doctor has 8 dies 0;person e plain has 10 dies 0;near b c";
    private static final int LAST = 999;
    private static final int KEPT = 16;

    static void all(Edges due) {
        ask(due);
        askRefused(due);
        lastHour(due);
        die(due);
        night(due);
        lastNight(due);
        seed(due);
        undo(due);
        undoRing(due);
        noActs(due);
        image(due);
        back(due);
        led(due);
        size(due);
        trouble(due);
    }

    private static void ask(Edges due) {
        due.sentence(42, "ASK: the hour is 1 more, the REGISTER has it, the asked one gives so much as the city gives, "
            + "or all he has, if that is less.");
        LastAsked x = due.city(KINDS, 5);
        due.answered(x, "ask(0, 4): one more than he gives", x.ask(0, 4), 9);
        due.is("size(0)", x.size(0), 10);
        due.is("register(0, 4)", x.register(0, 4), 10);
        due.answered(x, "ask(0, 4): all he has", x.ask(0, 4), 1);
        due.answered(x, "ask(0, 4): nothing", x.ask(0, 4), 0);
        due.is("register(0, 4)", x.register(0, 4), 12);
        due.is("person(0, 1)", x.person(0, 1), 10);
        due.is("person(4, 1)", x.person(4, 1), 0);
        due.answered(x, "ask(1, 2): just what he gives", x.ask(1, 2), 9);
        due.answered(x, "ask(4, 3): one less than he gives", x.ask(4, 3), 8);
        due.is("person(3, 1)", x.person(3, 1), 0);
        due.is("size(0)", x.size(0), 14);
        LastAsked y = due.city(TWO, 2);
        due.answered(y, "ask(0, 1) where nothing is given", y.ask(0, 1), 0);
        due.is("register(0, 1): the hour behind 99", y.register(0, 1), 100);
        due.is("size(0)", y.size(0), 100);
        due.is("heir(1)", y.heir(1), 0);
        LastAsked z = due.city("city hour 0 gives 9" + Edges.people(2, "plain", 99, 0), 2);
        for (int i = 0; i < 11; i++) {
            z.ask(0, 1);
        }
        due.is("person(0, 1), all", z.person(0, 1), 198);
        due.is("person(1, 1), nothing", z.person(1, 1), 0);
    }

    private static void askRefused(Edges due) {
        due.sentence(42, "NONE: 1 (unlike); 5 (one is dead); 6 (he can't); 3 (the hour is 999).");
        LastAsked x = due.city(KINDS, 5);
        String ahead = Edges.picture(x);
        due.refused(x, "ask(0, 0)", x.ask(0, 0), 1);
        due.refused(x, "ask(3, 3): 1 ahead of 6", x.ask(3, 3), 1);
        due.refused(x, "ask(5, 0)", x.ask(5, 0), 1);
        due.refused(x, "ask(-1, 0)", x.ask(-1, 0), 1);
        due.refused(x, "ask(0, 5)", x.ask(0, 5), 1);
        due.refused(x, "ask(0, -1)", x.ask(0, -1), 1);
        due.refused(x, "ask(least, greatest)", x.ask(Integer.MIN_VALUE, Integer.MAX_VALUE), 1);
        due.refused(x, "ask(3, 0): a doctor", x.ask(3, 0), 6);
        due.refused(x, "ask(3, 1): a doctor a shut one", x.ask(3, 1), 6);
        due.refused(x, "ask(0, 1): shut", x.ask(0, 1), 6);
        due.refused(x, "ask(2, 1): shut, though near", x.ask(2, 1), 6);
        due.refused(x, "ask(0, 2): walled, not near", x.ask(0, 2), 6);
        due.stays("ask refused", x, ahead);
        x.die(3);
        x.die(1);
        due.refused(x, "ask(3, 0): dead, 5 ahead of 6", x.ask(3, 0), 5);
        due.refused(x, "ask(0, 1): dead, 5 ahead of 6", x.ask(0, 1), 5);
        due.refused(x, "ask(1, 2): he is dead", x.ask(1, 2), 5);
        due.refused(x, "ask(0, 3): dead", x.ask(0, 3), 5);
        due.refused(x, "ask(3, 3): 1 ahead of 5", x.ask(3, 3), 1);
        due.is("size(10): two ACTS", x.size(10), 2);
        LastAsked none = new LastAsked();
        due.refused(none, "ask(0, 1) without a CITY", none.ask(0, 1), 1);
    }

    /** No 512 calls come to this hour; it is kept all the same. */
    private static void lastHour(Edges due) {
        due.sentence(42, "3 (the hour is 999)");
        LastAsked x = due.city(TWO + ";person c shut has 1 dies 0;person d plain has 1 dies 0", 4);
        x.die(3);
        for (int hour = 99; hour < LAST - 1; hour++) {
            x.ask(0, 1);
        }
        due.is("size(0)", x.size(0), LAST - 1);
        due.answered(x, "ask(0, 1) at 998", x.ask(0, 1), 0);
        due.is("size(0)", x.size(0), LAST);
        due.refused(x, "ask(0, 1) at 999", x.ask(0, 1), 3);
        due.refused(x, "ask(0, 2): 6 ahead of 3", x.ask(0, 2), 6);
        due.refused(x, "ask(0, 3): 5 ahead of 3", x.ask(0, 3), 5);
        due.refused(x, "ask(0, 0): 1 ahead of 3", x.ask(0, 0), 1);
        due.is("size(0) stays", x.size(0), LAST);
        due.is("register(0, 1)", x.register(0, 1), LAST);
        x.undo();
        due.answered(x, "ask(1, 0) at 998 again", x.ask(1, 0), 0);
    }

    private static void die(Edges due) {
        due.sentence(43, "DIE: to whom it goes; -2 the CAT.");
        LastAsked x = due.city(NowEdges.CHAIN, 6);
        due.answered(x, "die(0)", x.die(0), 1);
        due.is("person(1, 1)", x.person(1, 1), 198);
        due.is("person(0, 1)", x.person(0, 1), 0);
        due.is("person(0, 3)", x.person(0, 3), 0);
        due.answered(x, "die(5): no HEIR", x.die(5), -2);
        due.is("cat()", x.cat(), 99);
        due.answered(x, "die(4): his HEIR is dead", x.die(4), -2);
        due.is("size(0): no hour", x.size(0), 9);
        due.is("size(8): no NIGHT", x.size(8), 0);
        due.is("size(9): no DRAW", x.size(9), 0);
        due.is("size(10)", x.size(10), 3);
        LastAsked y = due.city(NowEdges.ROUND, 6);
        due.answered(y, "die(5) in a round: he alone", y.die(5), 0);
        due.is("die(0) of one person", due.city(ALONE, 1).die(0), -2);

        due.sentence(43, "NONE: 1; 5 (he is dead).");
        String ahead = Edges.picture(x);
        for (int p : new int[] {-1, 6, Integer.MIN_VALUE, Integer.MAX_VALUE}) {
            due.refused(x, "die(" + p + ")", x.die(p), 1);
        }
        due.refused(x, "die(0) again", x.die(0), 5);
        due.refused(x, "die(5) again", x.die(5), 5);
        due.stays("die refused", x, ahead);
        LastAsked none = new LastAsked();
        due.refused(none, "die(0) without a CITY", none.die(0), 1);
    }

    private static void night(Edges due) {
        due.sentence(44, "NIGHT: who dies, as bits.");
        LastAsked x = due.city(NowEdges.CHAIN, 6);
        due.answered(x, "night(), the most", x.night(), 63);
        due.is("cat()", x.cat(), 594);
        due.is("size(8)", x.size(8), 1);
        due.is("size(9): six DRAWS", x.size(9), 12409);
        due.answered(x, "night() of nobody", x.night(), 0);
        due.is("size(8)", x.size(8), 2);
        due.is("size(9): no DRAW", x.size(9), 12409);
        due.is("size(10): an ACT all the same", x.size(10), 2);
        due.is("size(0): no hour", x.size(0), 9);
        LastAsked y = due.city(TWO, 2);
        due.answered(y, "night(): nobody dies", y.night(), 0);
        due.is("size(9): two DRAWS", y.size(9), 5624);
        LastAsked z = due.city("city hour 9 gives 9;person a plain has 7 dies 74;person b plain has 8 dies 25", 2);
        due.answered(z, "night(): b alone, as nights by SEED 0", z.night(), 2);
        due.is("lives by SEED 0", z.lives(z.size(9), 0), 1);

        due.sentence(44, "NONE: 1 (no CITY); 3 (999 went by).");
        LastAsked none = new LastAsked();
        due.refused(none, "night()", none.night(), 1);
        due.is("size(8)", none.size(8), 0);
    }

    /** No 512 calls come to so many NIGHTS; they are kept all the same. */
    private static void lastNight(Edges due) {
        due.sentence(44, "3 (999 went by)");
        LastAsked x = due.city(TWO, 2);
        for (int i = 0; i < LAST - 1; i++) {
            x.night();
        }
        due.is("size(8)", x.size(8), LAST - 1);
        due.answered(x, "the 999th night()", x.night(), 0);
        due.is("size(8)", x.size(8), LAST);
        int seed = x.size(9);
        due.refused(x, "the 1000th night()", x.night(), 3);
        due.is("size(8) stays", x.size(8), LAST);
        due.is("size(9): SEED stays", x.size(9), seed);
        due.is("size(10)", x.size(10), KEPT);
        x.undo();
        due.answered(x, "the 999th night() again", x.night(), 0);
    }

    private static void seed(Edges due) {
        due.sentence(45, "SEED (no ACT): true");
        LastAsked x = due.city(NowEdges.CHAIN, 6);
        for (int v : new int[] {0, 1, 65535, 65536}) {
            due.is("seed(" + v + ")", x.seed(v), true);
            due.is("trouble()", x.trouble(), 0);
            due.is("size(9)", x.size(9), v);
        }
        due.is("size(10): no ACT", x.size(10), 0);
        due.is("undo()", x.undo(), false);
        due.is("size(9) stays", x.size(9), 65536);

        due.sentence(45, "false: 1 (no CITY); 2 (0 .. 65,536).");
        due.bounds(x, "seed(v)", v -> x.seed(v) ? 0 : LastAsked.NONE, 0, 65536, 2);
        x.seed(7);
        due.refused(x, "seed(65537)", x.seed(65537), 2);
        due.is("size(9) stays", x.size(9), 7);
        LastAsked none = new LastAsked();
        due.refused(none, "seed(0)", none.seed(0), 1);
        due.refused(none, "seed(-1): 1 ahead of 2", none.seed(-1), 1);
        due.is("size(9)", none.size(9), 0);
    }

    private static void undo(Edges due) {
        due.sentence(46, "UNDO: all, SEED too, is as ahead of the latest (16 are kept).");
        LastAsked x = due.city(NowTest.BASE, 5);
        x.seed(5);
        String first = Edges.picture(x);
        x.ask(0, 1);
        due.is("undo() of ask", x.undo(), true);
        due.is("trouble()", x.trouble(), 0);
        due.stays("ask and undo", x, first);
        x.die(2);
        due.is("undo() of die", x.undo(), true);
        due.stays("die and undo", x, first);
        x.night();
        x.seed(9);
        due.is("undo() of night", x.undo(), true);
        due.stays("night, seed and undo", x, first);
        due.is("size(9): as ahead of the NIGHT", x.size(9), 5);

        due.sentence(46, "false: 6.");
        LastAsked y = due.city(NowTest.BASE, 5);
        due.refused(y, "undo(): no ACT yet", y.undo(), 6);
        y.seed(3);
        y.image();
        y.ask(0, 0);
        due.refused(y, "undo(): no ACT by seed, image, a refused ask", y.undo(), 6);
        y.ask(0, 1);
        due.is("undo()", y.undo(), true);
        due.refused(y, "undo(): none is left", y.undo(), 6);
        LastAsked none = new LastAsked();
        due.refused(none, "undo() without a CITY", none.undo(), 6);
    }

    private static void undoRing(Edges due) {
        due.sentence(46, "(16 are kept)");
        for (int acts = KEPT - 1; acts <= KEPT + 1; acts++) {
            LastAsked x = due.city(TWO, 2);
            for (int i = 0; i < acts; i++) {
                x.ask(0, 1);
            }
            int kept = Math.min(acts, KEPT);
            due.is("size(10) behind " + acts, x.size(10), kept);
            for (int i = 0; i < kept; i++) {
                due.is("undo()", x.undo(), true);
                due.is("size(0)", x.size(0), 99 + acts - 1 - i);
            }
            due.is("undo() behind all of " + acts, x.undo(), false);
            due.is("size(0) is what can't be undone", x.size(0), 99 + acts - kept);
        }
        // Round and round: ten ACTS, five undone, twelve more are 17, of which 16 are kept.
        LastAsked y = due.city(TWO, 2);
        for (int i = 0; i < 10; i++) {
            y.ask(0, 1);
        }
        for (int i = 0; i < 5; i++) {
            y.undo();
        }
        for (int i = 0; i < 12; i++) {
            y.ask(1, 0);
        }
        due.is("size(10)", y.size(10), KEPT);
        for (int i = 0; i < KEPT; i++) {
            due.is("undo()", y.undo(), true);
        }
        due.is("undo()", y.undo(), false);
        due.is("size(0)", y.size(0), 100);
        due.is("register(0, 1)", y.register(0, 1), 100);
        due.is("register(1, 0)", y.register(1, 0), -2);
    }

    private static void noActs(Edges due) {
        due.sentence(46, "ACTS: ASK, DIE (one alone), NIGHT (by SEED).");
        LastAsked x = due.city(NowTest.BASE, 5);
        x.seed(11);
        x.ask(0, 1);
        x.die(2);
        String ahead = Edges.picture(x);
        IntToLongFunction[] others = {i -> x.heir(0), i -> x.heirTo(0), i -> x.hopes(0), i -> x.richest(), i -> x.goesTo(0, 1),
            i -> x.hasThen(0, 2), i -> x.catThen(11), i -> x.rounds(), i -> x.worthiest(), i -> x.plot(0, 1), i -> x.mean(0, true),
            i -> x.odds(0, 1, true), i -> x.passes(0, 1, true), i -> x.catMean(true), i -> x.best(0, 3), i -> x.bestMean(0, 3, true),
            i -> x.tour(0, 12), i -> x.tourHours(0, 12), i -> x.apart(0, 1), i -> x.toAsk(0), i -> x.rivals(0, 1), i -> x.fits(),
            i -> x.fitAt(0, 0), i -> x.heirBy(0, 3), i -> x.look(), i -> x.lookLeaves(), i -> x.judge(), i -> x.rests(3),
            i -> x.rest(3), i -> x.nights(0, 9, 60), i -> x.lives(9, 60), i -> x.firstCat(9, 60), i -> x.begs(3, true, true, true)};
        for (IntToLongFunction other : others) {
            other.applyAsLong(0);
            due.is("trouble()", x.trouble(), 0);
        }
        due.is("led(0)", x.led(0), 4);
        due.stays("all that are no ACTS", x, ahead);
        due.is("size(10)", x.size(10), 2);
    }

    private static void image(Edges due) {
        due.sentence(47, "IMAGES: up to 3; gone back to one, nothing can be undone.");
        LastAsked x = due.city(NowTest.BASE, 5);
        for (int i = 0; i < 3; i++) {
            due.is("size(11)", x.size(11), i);
            due.answered(x, "image() " + i, x.image(), i);
        }
        due.is("size(11), full", x.size(11), 3);
        due.is("size(10): no ACT", x.size(10), 0);
        x.ask(0, 1);
        x.undo();
        due.is("size(11): undo() leaves them", x.size(11), 3);

        due.sentence(47, "NONE: 1 (no CITY); 3.");
        due.refused(x, "image(), one more", x.image(), 3);
        due.is("size(11) stays", x.size(11), 3);
        x.back(0);
        due.refused(x, "image() behind back(): all stay", x.image(), 3);
        Due.feedAll(x, ALONE);
        x.city(ALONE.length());
        due.answered(x, "image() of the next CITY", x.image(), 0);
        LastAsked none = new LastAsked();
        due.refused(none, "image()", none.image(), 1);
        due.is("size(11)", none.size(11), 0);
    }

    private static void back(Edges due) {
        due.sentence(48, "All is as by an IMAGE (all IMAGES stay): true");
        LastAsked x = due.city("city hour 9 gives 2;person a plain has 10 dies 50;person b plain has 20 dies 50;heard b a at 3 give 1", 2);
        x.seed(8);
        x.image();
        x.ask(0, 1);
        x.image();
        x.night();
        x.die(0);
        x.image();
        x.back(0);
        String first = Edges.picture(x);
        due.is("size(9)", x.size(9), 8);
        due.is("size(0)", x.size(0), 9);
        due.is("size(7)", x.size(7), 2);
        due.is("size(11)", x.size(11), 3);
        due.is("size(10): nothing can be undone", x.size(10), 0);
        due.is("undo()", x.undo(), false);
        due.is("back(2)", x.back(2), true);
        due.is("trouble()", x.trouble(), 0);
        due.is("size(8)", x.size(8), 1);
        due.is("person(0, 3)", x.person(0, 3), 0);
        due.is("back(1)", x.back(1), true);
        due.is("size(0)", x.size(0), 10);
        due.is("size(8)", x.size(8), 0);
        due.is("register(0, 1)", x.register(0, 1), 10);
        x.ask(0, 1);
        due.is("size(10) behind an ACT", x.size(10), 1);
        due.is("back(1), again", x.back(1), true);
        due.is("size(0): the IMAGE hasn't changed", x.size(0), 10);
        due.is("undo() behind back()", x.undo(), false);
        due.is("back(0)", x.back(0), true);
        due.stays("back(0)", x, first);

        due.sentence(48, "false: 1.");
        due.bounds(x, "back(image)", image -> x.back(image) ? 0 : LastAsked.NONE, 0, 2, 1);
        LastAsked y = due.city(TWO, 2);
        due.refused(y, "back(0): never made", y.back(0), 1);
        y.ask(0, 1);
        y.image();
        due.refused(y, "back(1): never made", y.back(1), 1);
        due.is("size(10) stays", y.size(10), 1);
        due.bounds(y, "back(image) of one", image -> y.back(image) ? 0 : LastAsked.NONE, 0, 0, 1);
        LastAsked none = new LastAsked();
        due.refused(none, "back(0) without a CITY", none.back(0), 1);
    }

    private static void led(Edges due) {
        due.sentence(49, "The i-th of those who live, by numbers, whose HEIR is the CAT.");
        LastAsked x = due.city(NowTest.BASE, 5);
        due.is("led(0)", x.led(0), 2);
        due.is("led(1)", x.led(1), 4);
        x.die(2);
        due.is("led(0): the first of those who live", x.led(0), 4);
        x.die(1);
        due.is("led(0): b's death leaves a to the CAT", x.led(0), 0);
        LastAsked six = due.city("city hour 9 gives 9" + Edges.people(6, "plain", 9, 0), 6);
        for (int i = 0; i < 6; i++) {
            due.is("led(" + i + ") of six", six.led(i), i);
        }

        due.sentence(49, "NoSuchElementException if there is none such.");
        for (int i : new int[] {-1, 6, Integer.MIN_VALUE, Integer.MAX_VALUE}) {
            due.throwsNoSuch("led(" + i + ") of six", six, i);
        }
        LastAsked round = due.city(NowEdges.ROUND, 6);
        due.throwsNoSuch("led(0): none in a round", round, 0);
        round.night();
        due.throwsNoSuch("led(0): nobody lives", round, 0);
        LastAsked none = new LastAsked();
        due.throwsNoSuch("led(0) without a CITY", none, 0);
        round.heir(9);
        due.throwsNoSuch("led(0)", round, 0);
        due.is("trouble(): no number is told of led", round.trouble(), 1);
    }

    private static void size(Edges due) {
        due.sentence(50, "0 the hour NOW, 1 gives, 2 people, 3 near, 4 asked as told, 5 heard, 6 went, 7 those who live "
            + "NOW, 8 NIGHTS by ACTS, 9 SEED, 10 ACTS that can be undone, 11 IMAGES, 12 bytes of THE TAPE.");
        LastAsked x = due.city(NowTest.BASE, 5);
        int[] told = {10, 2, 5, 3, 3, 1, 3, 5, 0, 0, 0, 0, 0};
        for (int what = 0; what <= 12; what++) {
            due.is("size(" + what + ") as told", x.size(what), told[what]);
        }
        x.seed(65536);
        x.ask(0, 1);
        x.ask(2, 1);
        x.die(4);
        x.image();
        x.image();
        x.feed(0, 0, 0, 0, 0);
        x.nights(0, 5, 9);
        int[] now = {12, 2, 5, 3, 3, 1, 3, 4, 0, 65536, 3, 2, 20};
        for (int what = 0; what <= 12; what++) {
            due.is("size(" + what + ") NOW", x.size(what), now[what]);
        }
        x.night();
        due.is("size(8)", x.size(8), 1);
        x.undo();
        due.is("size(8) behind undo()", x.size(8), 0);

        due.sentence(50, "NONE for others; 0 for what there isn't.");
        LastAsked none = new LastAsked();
        for (LastAsked y : new LastAsked[] {x, none}) {
            for (int what : new int[] {-1, 13, Integer.MIN_VALUE, Integer.MAX_VALUE}) {
                due.is("size(" + what + ")", y.size(what), -1);
            }
        }
        for (int what = 0; what <= 12; what++) {
            due.is("size(" + what + ") without a CITY", none.size(what), 0);
        }
        none.city(0);
        none.feed(0, 0, 0, 0, 0);
        due.is("size(12) without a CITY", none.size(12), 20);
        due.is("size(2) behind a FAULT", none.size(2), 0);
    }

    private static void trouble(Edges due) {
        due.sentence(51, "TROUBLE of the latest call that may be refused (those of which a number is told here): 0 it "
            + "wasn't; 1 there is none such; 2 a number; 3 no room; 4 a FAULT; 5 not so; 6 there is none.");
        LastAsked x = new LastAsked();
        due.is("trouble() of a new object", x.trouble(), 0);
        x.heir(0);
        due.is("trouble() 1", x.trouble(), 1);
        x.city(1);
        due.is("trouble() 2", x.trouble(), 2);
        x.city(0);
        due.is("trouble() 4", x.trouble(), 4);
        x.undo();
        due.is("trouble() 6", x.trouble(), 6);
        due.is("trouble() asked again", x.trouble(), 6);
        x.feed(1, 2, 3, 4, 5);
        x.fault();
        x.where();
        x.size(0);
        x.size(99);
        due.throwsNoSuch("led(0)", x, 0);
        due.is("trouble() behind calls that aren't refused", x.trouble(), 6);
        x.city(20);
        Due.feedAll(x, TWO);
        x.city(TWO.length());
        due.is("trouble() 0", x.trouble(), 0);
        x.die(0);
        x.die(0);
        due.is("trouble() 5", x.trouble(), 5);
        x.cat();
        due.is("trouble() 0 behind an answer", x.trouble(), 0);
        for (int i = 0; i < 4; i++) {
            x.image();
        }
        due.is("trouble() 3", x.trouble(), 3);
        for (int i = 0; i < 46; i++) {
            x.feed(0, 0, 0, 0, 0);
        }
        due.is("trouble() 3 behind a full TAPE", x.trouble(), 3);
        due.is("back(0)", x.back(0), true);
        due.is("trouble() 0 behind back()", x.trouble(), 0);
    }
}

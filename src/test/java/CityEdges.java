/** The edges of promises 1 to 5 and of the text of a CITY (terms I). */
final class CityEdges {
    private static final String HEAD = "city hour 9 gives 1";
    private static final String ONE = HEAD + ";person a plain has 5 dies 5";
    private static final String KINDS = HEAD + ";person a plain has 5 dies 5;person b shut has 5 dies 5"
        + ";person c walled has 5 dies 5;person d doctor has 5 dies 5";
    private static final String SIX = HEAD + Edges.people(6, "plain", 5, 5);
    private static final int BLANKS = 0x20202020;

    static void all(Edges due) {
        newObject(due);
        feed(due);
        tapeFull(due);
        city(due);
        cityRefused(due);
        fault(due);
        where(due);
        tokens(due);
        cityLine(due);
        personLine(due);
        nearLine(due);
        askedLine(due);
        heardLine(due);
        wentLine(due);
        names(due);
        form(due);
        faultsTwoAndThree(due);
        faultsFourAndFive(due);
        faultSix(due);
        faultSeven(due);
        leastNumber(due);
        firstFromTheLeft(due);
    }

    /** The place of the FAULT is marked by ^. */
    private static void spoilt(Edges due, String marked, int number) {
        int place = marked.indexOf('^');
        due.fault(marked.substring(0, place) + marked.substring(place + 1), number, place);
    }

    private static void newObject(Edges due) {
        due.sentence(1, "No CITY.");
        LastAsked other = due.city(NowTest.BASE, 5);
        other.seed(7);
        other.ask(0, 1);
        other.image();
        LastAsked x = new LastAsked();
        due.is("trouble()", x.trouble(), 0);
        due.is("fault()", x.fault(), 0);
        due.is("where()", x.where(), -1);
        for (int what = 0; what <= 12; what++) {
            due.is("size(" + what + ")", x.size(what), 0);
        }
        due.throwsNoSuch("led(0)", x, 0);
        due.is("cat()", x.cat(), -1);
        due.is("person(0, 0)", x.person(0, 0), -1);
        due.is("night()", x.night(), -1);
        due.is("image()", x.image(), -1);
        due.is("undo()", x.undo(), false);
        due.is("back(0)", x.back(0), false);
        due.is("size(2) of another object", other.size(2), 5);
    }

    private static void feed(Edges due) {
        due.sentence(2, "Twenty bytes come behind THE TAPE, of each number the highest first: how many it has");
        LastAsked x = new LastAsked();
        due.is("feed 1", x.feed(0x63697479, 0x20686F75, 0x72203920, 0x67697665, 0x7320313B), 20);
        due.is("feed 2", x.feed(0x70657273, 0x6F6E2061, 0x20706C61, 0x696E2068, 0x61732035), 40);
        due.is("feed 3", x.feed(0x20646965, 0x73203920, BLANKS, BLANKS, BLANKS), 60);
        due.is("city(47)", x.city(47), 1);
        due.is("size(0)", x.size(0), 9);
        due.is("person(0, 1)", x.person(0, 1), 5);
        due.is("person(0, 2)", x.person(0, 2), 9);
        // A byte of 128 or more, in each of a number's four places; a blank would go on.
        for (int i = 0; i < 4; i++) {
            LastAsked y = new LastAsked();
            y.feed(0xA0000000 >>> 8 * i | BLANKS & ~(0xFF000000 >>> 8 * i), BLANKS, BLANKS, BLANKS, BLANKS);
            y.city(20);
            due.is("fault() with a byte of 160 at " + i, y.fault(), 1);
            due.is("where() with a byte of 160 at " + i, y.where(), i);
        }
        LastAsked z = new LastAsked();
        due.is("feed of the least", z.feed(Integer.MIN_VALUE, 0, 0, 0, Integer.MAX_VALUE), 20);
        due.is("feed of -1", z.feed(-1, -1, -1, -1, -1), 40);
    }

    private static void tapeFull(Edges due) {
        due.sentence(2, "NONE, and none comes, if there would be more than 900");
        LastAsked x = new LastAsked();
        Due.feedAll(x, ONE);
        for (int fed = 80; fed <= 900; fed += 20) {
            due.is("feed up to " + fed, x.feed(BLANKS, BLANKS, BLANKS, BLANKS, BLANKS), fed);
        }
        due.is("feed behind 900", x.feed(0, 0, 0, 0, 0), -1);
        due.is("feed behind 900, again", x.feed(-1, -1, -1, -1, -1), -1);
        due.is("size(12)", x.size(12), 900);
        due.is("trouble(): no number is told of feed", x.trouble(), 0);
        due.is("city(900): none came", x.city(900), 1);
        due.is("feed behind a city()", x.feed(BLANKS, BLANKS, BLANKS, BLANKS, BLANKS), 20);
        for (int fed = 40; fed <= 900; fed += 20) {
            x.feed(BLANKS, BLANKS, BLANKS, BLANKS, BLANKS);
        }
        due.is("size(12), full again", x.size(12), 900);
        due.is("feed behind 900 once more", x.feed(0, 0, 0, 0, 0), -1);
    }

    private static void city(Edges due) {
        due.sentence(3, "The first n bytes of THE TAPE (it is empty then) are the CITY from now on");
        LastAsked x = new LastAsked();
        Due.feedAll(x, ONE + "5 ?? foo");
        due.is("city(47)", x.city(47), 1);
        due.is("person(0, 2): of '55' just '5' is read", x.person(0, 2), 5);
        due.is("size(12) behind a CITY", x.size(12), 0);
        Due.feedAll(x, ONE + "5 ?? foo");
        due.is("city(48)", x.city(48), 1);
        due.is("person(0, 2)", x.person(0, 2), 55);
        Due.feedAll(x, ONE);
        due.is("city(46)", x.city(46), -1);
        due.is("size(12) behind a FAULT", x.size(12), 0);
        LastAsked cut = new LastAsked();
        Due.feedAll(cut, ONE + ";went a cats");
        due.is("city(58): of 'cats' just 'cat' is read", cut.city(58), 1);
        due.is("size(6)", cut.size(6), 1);
        due.city(ONE + " ".repeat(900 - ONE.length()), 1);
        due.city(" ".repeat(900 - ONE.length()) + ONE, 1);

        due.sentence(3, "SEED 0, all live, the CAT has nothing; heard ones at the hour told; nothing to undo, no IMAGES");
        LastAsked y = due.city(NowTest.BASE, 5);
        String first = Edges.picture(y);
        y.seed(65536);
        y.ask(0, 3);
        y.image();
        y.image();
        y.image();
        y.die(2);
        y.night();
        Due.feedAll(y, NowTest.BASE);
        due.is("city() once more", y.city(NowTest.BASE.length()), 5);
        due.stays("city() once more", y, first);
        due.is("size(9): SEED", y.size(9), 0);
        due.is("size(7): all live", y.size(7), 5);
        due.is("cat()", y.cat(), 0);
        due.is("register(0, 3): heard", y.register(0, 3), 4);
        due.is("size(8): NIGHTS", y.size(8), 0);
        due.is("undo()", y.undo(), false);
        due.is("back(0)", y.back(0), false);
        due.is("image(): from the first on", y.image(), 0);

        due.sentence(3, "how many people");
        due.city(ONE, 1);
        due.city(SIX, 6);
    }

    private static void cityRefused(Edges due) {
        due.sentence(3, "NONE: 2 (THE TAPE stays)");
        LastAsked x = new LastAsked();
        due.refused(x, "city(1) of nothing fed", x.city(1), 2);
        due.refused(x, "city(-1) of nothing fed", x.city(-1), 2);
        Due.feedAll(x, ONE);
        due.refused(x, "city(61) of 60", x.city(61), 2);
        due.refused(x, "city(-1)", x.city(-1), 2);
        due.refused(x, "city(901)", x.city(901), 2);
        due.refused(x, "city(least)", x.city(Integer.MIN_VALUE), 2);
        due.refused(x, "city(greatest)", x.city(Integer.MAX_VALUE), 2);
        due.is("size(12)", x.size(12), 60);
        due.is("size(2)", x.size(2), 0);
        due.answered(x, "city(60) of 60", x.city(60), 1);
        String ahead = Edges.picture(x);
        due.refused(x, "city(1) of nothing left", x.city(1), 2);
        due.stays("city(1)", x, ahead);

        due.sentence(3, "4 (the CITY stays)");
        LastAsked y = due.city(NowTest.BASE, 5);
        y.seed(99);
        y.ask(0, 1);
        y.image();
        y.die(2);
        String seen = Edges.picture(y);
        due.refused(y, "city(0)", y.city(0), 4);
        due.stays("city(0)", y, seen);
        Due.feedAll(y, "city hour 3 gives 2;person q shut has 8 dies 1;went q q");
        due.refused(y, "city(55)", y.city(55), 4);
        due.stays("city(55)", y, seen);
        due.is("judge() by what was told first", y.judge(), -2);
        due.is("apart(0, 2) by what was told first", y.apart(0, 2), 2);
        due.is("fits() by what was told first", y.fits(), 3);
        due.is("undo() goes on", y.undo(), true);
        due.is("back(0) goes on", y.back(0), true);
    }

    private static void fault(Edges due) {
        due.sentence(4, "The FAULT of the latest city() not refused by 2; 0 without one.");
        LastAsked x = new LastAsked();
        due.is("fault() ahead of all", x.fault(), 0);
        x.city(1);
        due.is("fault() behind 2 alone", x.fault(), 0);
        String[] texts = {"?", ONE + ";near x", ONE + ";city", "city hour 100", SIX + ";person g", HEAD,
            KINDS + ";asked d"};
        for (int number = 1; number <= 7; number++) {
            Due.feedAll(x, texts[number - 1]);
            x.city(texts[number - 1].length());
            due.is("fault() of '" + texts[number - 1] + "'", x.fault(), number);
            x.city(-1);
            due.is("fault() behind 2", x.fault(), number);
            x.cat();
            x.feed(0, 0, 0, 0, 0);
            due.is("fault() behind other calls", x.fault(), number);
            x.city(0);
            due.is("fault() of nothing", x.fault(), 1);
        }
        Due.feedAll(x, ONE);
        x.city(ONE.length());
        due.is("fault() of a CITY", x.fault(), 0);
        x.city(1);
        due.is("fault() of a CITY, behind 2", x.fault(), 0);
        x.person(9, 9);
        due.is("fault() of a CITY, behind another TROUBLE", x.fault(), 0);
    }

    private static void where(Edges due) {
        due.sentence(5, "Its place, if the latest call that may be refused was by 4; NONE else.");
        LastAsked x = new LastAsked();
        due.is("where() ahead of all", x.where(), -1);
        x.city(0);
        due.is("where(): the least place", x.where(), 0);
        due.is("where(), asked again", x.where(), 0);
        for (int i = 0; i < 45; i++) {
            x.feed(BLANKS, BLANKS, BLANKS, BLANKS, BLANKS);
        }
        due.is("where() behind feed", x.where(), 0);
        x.city(900);
        due.is("where(): the greatest place", x.where(), 900);
        x.feed(0, 0, 0, 0, 0);
        x.fault();
        x.size(0);
        x.size(13);
        x.trouble();
        due.throwsNoSuch("led(0)", x, 0);
        due.is("where() behind calls that aren't refused", x.where(), 900);
        x.cat();
        due.is("where() behind one refused by 1", x.where(), -1);
        x.city(20);
        due.is("where() behind the next FAULT", x.where(), 0);
        x.city(-1);
        due.is("where() behind one refused by 2", x.where(), -1);
        Due.feedAll(x, ONE);
        x.city(ONE.length());
        due.is("where() behind a CITY", x.where(), -1);
        x.city(0);
        due.is("where() behind a FAULT", x.where(), 0);
        x.cat();
        due.is("where() behind an answer", x.where(), -1);
    }

    // ---- the text: what is right, and one less or one more

    private static void tokens(Edges due) {
        due.sentence(3, "blanks, 32, part TOKENS and mean nothing else");
        due.city("   city   hour   9   gives   1   ;   person   a   plain   has   5   dies   5   ", 1);
        due.city("city hour 9gives 1;person a plain has 5dies 5", 1);
        due.city("city hour9gives1;person a plain has5dies5", 1);
        spoilt(due, "city^\thour 9 gives 1", 1);
        spoilt(due, "city^\nhour 9 gives 1", 1);
        spoilt(due, "city^\u0000hour 9 gives 1", 1);
        spoilt(due, "city^\u001fhour 9 gives 1", 1);
        spoilt(due, "city^!hour 9 gives 1", 1);
        spoilt(due, "city^\u00a0hour 9 gives 1", 1);
        spoilt(due, ONE + "^\u0000", 1);
        spoilt(due, "city hour ^h", 1);
        spoilt(due, "^ci ty hour 9 gives 1", 1);

        due.sentence(3, "WORDS of 1 to 8 small letters that stand together");
        due.is("size(6)", due.city(HEAD + ";person abcdefgh plain has 5 dies 5;person a plain has 5 dies 5;went a abcdefgh", 2).size(6), 1);
        due.city(HEAD + ";person z plain has 5 dies 5;person zzzzzzzz plain has 5 dies 5", 2);
        spoilt(due, HEAD + ";person ^abcdefghi plain has 5 dies 5", 1);
        spoilt(due, HEAD + ";person ^abcdefghabcdefgh plain has 5 dies 5", 1);
        spoilt(due, HEAD + ";person abcdefgh ^i plain has 5 dies 5", 1);
        spoilt(due, HEAD + ";person ^Ab plain has 5 dies 5", 1);
        spoilt(due, HEAD + ";person a^B plain has 5 dies 5", 1);
        spoilt(due, HEAD + ";person a^Z plain has 5 dies 5", 1);
        spoilt(due, HEAD + ";person a^` plain has 5 dies 5", 1);
        spoilt(due, HEAD + ";person a^{ plain has 5 dies 5", 1);
        spoilt(due, HEAD + ";person a^\u00e1 plain has 5 dies 5", 1);
        // A longer name is no other one's, though its last eight letters are.
        spoilt(due, HEAD + ";person abcdefgh plain has 5 dies 5;went ^xabcdefgh cat", 1);

        due.sentence(3, "WHOLES of 1 to 3 digits that do");
        LastAsked x = due.city("city hour 009 gives 01;person a plain has 099 dies 000", 1);
        due.is("size(0)", x.size(0), 9);
        due.is("size(1)", x.size(1), 1);
        due.is("person(0, 1)", x.person(0, 1), 99);
        spoilt(due, "city hour ^0009 gives 1", 1);
        spoilt(due, "city hour ^1000 gives 1", 1);
        spoilt(due, "city hour ^99999999999999999999 gives 1", 1);
        spoilt(due, "city hour 9 ^9 gives 1", 1);
        spoilt(due, "city hour 9^/ gives 1", 1);
        spoilt(due, "city hour 9^: gives 1", 1);
        spoilt(due, "city hour ^/9 gives 1", 1);
        spoilt(due, "city hour ^:9 gives 1", 1);
        spoilt(due, "city hour ^-1 gives 1", 1);

        due.sentence(3, "single ones of ;");
        due.city(HEAD + " ; person a plain has 5 dies 5", 1);
        spoilt(due, HEAD + ";^;person a plain has 5 dies 5", 1);
        spoilt(due, "^;" + ONE, 1);
        spoilt(due, ONE + " ^abcdefghi person b plain has 5 dies 5", 1);
        spoilt(due, ONE + " ^1234 person b plain has 5 dies 5", 1);
        spoilt(due, ONE + ";^", 1);
        spoilt(due, ONE + ";  ^", 1);
        spoilt(due, HEAD + "^:person a plain has 5 dies 5", 1);
    }

    private static void cityLine(Edges due) {
        due.sentence(3, "city hour WHOLE gives WHOLE (0 .. 99; 0 .. 9), ahead of all others");
        String person = ";person a plain has 5 dies 5";
        due.is("size(0), the least", due.city("city hour 0 gives 1" + person, 1).size(0), 0);
        due.is("size(0), the greatest", due.city("city hour 99 gives 1" + person, 1).size(0), 99);
        spoilt(due, "city hour ^100 gives 1" + person, 4);
        spoilt(due, "city hour ^999 gives 1" + person, 4);
        due.is("size(1), the least", due.city("city hour 9 gives 0" + person, 1).size(1), 0);
        due.is("size(1), the greatest", due.city("city hour 9 gives 9" + person, 1).size(1), 9);
        spoilt(due, "city hour 9 gives ^10" + person, 4);
        spoilt(due, "city hour 9 gives ^999" + person, 4);
        spoilt(due, "^person a plain has 5 dies 5;" + HEAD, 6);
    }

    private static void personLine(Edges due) {
        due.sentence(3, "person NAME KIND has WHOLE dies WHOLE (KIND: plain, shut, walled, or doctor; 0 .. 99; 0 .. 100 "
            + "in a hundred a night; up to 6)");
        LastAsked x = due.city(HEAD + ";person a plain has 0 dies 0;person b shut has 99 dies 100"
            + ";person c walled has 1 dies 1;person d doctor has 98 dies 99", 4);
        int[][] rows = {{0, 0, 0}, {1, 99, 100}, {2, 1, 1}, {3, 98, 99}};
        for (int p = 0; p < 4; p++) {
            for (int what = 0; what <= 2; what++) {
                due.is("person(" + p + ", " + what + ")", x.person(p, what), rows[p][what]);
            }
        }
        spoilt(due, HEAD + ";person a ^poor has 5 dies 5", 1);
        spoilt(due, HEAD + ";person a ^has 5 dies 5", 1);
        spoilt(due, HEAD + ";person a ^cat has 5 dies 5", 1);
        spoilt(due, HEAD + ";person a plain has ^100 dies 5", 4);
        spoilt(due, HEAD + ";person a plain has 5 dies ^101", 4);
        spoilt(due, HEAD + ";person a plain has 5 dies ^999", 4);
        due.is("size(2), the most", due.city(SIX, 6).size(2), 6);
        spoilt(due, SIX + ";^person g plain has 5 dies 5", 5);
    }

    private static void nearLine(Edges due) {
        due.sentence(3, "near PERSON PERSON (unlike; once in whatever order; up to 9)");
        String nine = SIX + ";near a b;near a c;near a d;near a e;near a f;near b c;near b d;near b e;near b f";
        LastAsked x = due.city(nine, 6);
        due.is("size(3), the most", x.size(3), 9);
        due.is("person(5, 4)", x.person(5, 4), 3);
        spoilt(due, nine + ";^near c d", 5);
        spoilt(due, nine + ";^near a b", 5);
        spoilt(due, SIX + ";near a ^a", 3);
        spoilt(due, SIX + ";near a b;near a ^b", 3);
        spoilt(due, SIX + ";near a b;near b ^a", 3);
        due.is("size(3), none", due.city(SIX, 6).size(3), 0);
    }

    private static String twelve() {
        StringBuilder text = new StringBuilder(SIX);
        for (String two : "a b,b a,a c,c a,a d,d a,a e,e a,a f,f a,b c,c b".split(",")) {
            text.append(";asked ").append(two).append(" at 9");
        }
        return text.toString();
    }

    private static void askedLine(Edges due) {
        due.sentence(3, "asked PERSON PERSON at WHOLE (the first one the second one; 0 .. the hour told; up to 12)");
        LastAsked x = due.city(SIX + ";asked a b at 0;asked b a at 9", 6);
        due.is("register(0, 1), the least", x.register(0, 1), 0);
        due.is("register(1, 0), the greatest", x.register(1, 0), 9);
        due.is("register(0, 2)", x.register(0, 2), -2);
        spoilt(due, SIX + ";asked a b at ^10", 4);
        String dawn = "city hour 0 gives 1" + Edges.people(2, "plain", 5, 5);
        due.is("register(0, 1) by hour 0", due.city(dawn + ";asked a b at 0", 2).register(0, 1), 0);
        spoilt(due, dawn + ";asked a b at ^1", 4);
        String late = "city hour 99 gives 1" + Edges.people(2, "plain", 5, 5);
        due.is("register(0, 1) by hour 99", due.city(late + ";asked a b at 99", 2).register(0, 1), 99);
        spoilt(due, late + ";asked a b at ^100", 4);
        due.is("size(4), the most", due.city(twelve(), 6).size(4), 12);
        spoilt(due, twelve() + ";^asked d e at 9", 5);
        due.is("size(4), none", due.city(SIX, 6).size(4), 0);
    }

    private static void heardLine(Edges due) {
        due.sentence(3, "heard PERSON PERSON at WHOLE give WHOLE (likewise, but by so many hours more or less; 0 .. 3; "
            + "up to 3; each two in that order once of both)");
        LastAsked x = due.city(twelve() + ";heard d e at 0 give 0;heard e d at 9 give 3;heard d f at 5 give 1", 6);
        due.is("size(5), the most", x.size(5), 3);
        due.is("size(4): heard ones aren't asked ones", x.size(4), 12);
        due.is("register(3, 4), the least", x.register(3, 4), 0);
        due.is("register(4, 3), the greatest", x.register(4, 3), 9);
        spoilt(due, twelve() + ";heard d e at 0 give 0;heard e d at 9 give 3;heard d f at 5 give 1;^heard e f at 5 give 1", 5);
        spoilt(due, SIX + ";heard a b at ^10 give 1", 4);
        spoilt(due, SIX + ";heard a b at 9 give ^4", 4);
        spoilt(due, SIX + ";asked a b at 1;asked a ^b at 2", 3);
        spoilt(due, SIX + ";asked a b at 1;heard a ^b at 2 give 1", 3);
        spoilt(due, SIX + ";heard a b at 1 give 1;asked a ^b at 2", 3);
        spoilt(due, SIX + ";heard a b at 1 give 1;heard a ^b at 2 give 1", 3);
        due.city(SIX + ";asked a b at 1;heard b a at 1 give 1", 6);
        due.is("size(5), none", due.city(SIX, 6).size(5), 0);
    }

    private static void wentLine(Edges due) {
        due.sentence(3, "went PERSON PERSON, or went PERSON cat (what the first one leaves, at first, goes to the "
            + "second one, or to the cat; each first one once)");
        LastAsked x = due.city(SIX + ";went a b;went b a;went c a;went d cat;went e cat;went f e", 6);
        due.is("size(6), the most", x.size(6), 6);
        spoilt(due, SIX + ";went a b;went ^a c", 3);
        spoilt(due, SIX + ";went a cat;went ^a cat", 3);
        spoilt(due, SIX + ";went a ^a", 3);
        spoilt(due, SIX + ";went ^cat a", 1);
        spoilt(due, SIX + ";went a b ^cat", 1);
        due.city(HEAD + ";person b shut has 5 dies 5;person d doctor has 5 dies 5;went b d", 2);
        due.is("size(6), none", due.city(SIX, 6).size(6), 0);
    }

    private static void names(Edges due) {
        due.sentence(3, "NAMES are WORDS but city, person, near, asked, heard, went, cat; each told once, ahead of its use.");
        for (String kept : "city person near asked heard went cat".split(" ")) {
            spoilt(due, HEAD + ";person ^" + kept + " plain has 5 dies 5", 1);
            spoilt(due, SIX + ";near ^" + kept + " a", 1);
            spoilt(due, SIX + ";near a ^" + kept, 1);
            spoilt(due, SIX + ";asked ^" + kept + " a at 1", 1);
            spoilt(due, SIX + ";heard a ^" + kept + " at 1 give 1", 1);
        }
        for (String free : "hour gives has dies at give plain shut walled doctor cats cit".split(" ")) {
            due.city(HEAD + ";person " + free + " plain has 5 dies 5;person a plain has 5 dies 5;asked a " + free
                + " at 1;near " + free + " a;went " + free + " a", 2);
        }
        spoilt(due, HEAD + ";person a plain has 5 dies 5;person ^a shut has 5 dies 5", 3);
        spoilt(due, HEAD + ";near ^a b;person a plain has 5 dies 5;person b plain has 5 dies 5", 2);
        spoilt(due, HEAD + ";person a plain has 5 dies 5;asked a ^b at 1;person b plain has 5 dies 5", 2);
        due.city(HEAD + ";person a plain has 5 dies 5;went a cat;person b plain has 5 dies 5;near b a", 2);
    }

    // ---- FAULTS

    private static void form(Edges due) {
        due.sentence(4, "1 FORM: the first byte that begins no TOKEN, or TOKEN with which no CITY goes on (the end: its place).");
        String line = "city hour 9 gives 1";
        String[] heads = {"^", "city^", "city hour^", "city hour 9^", "city hour 9 gives^", line + ";^"};
        for (String head : heads) {
            spoilt(due, head, 1);
        }
        String[] ends = {";person", ";person g", ";person g plain", ";person g plain has", ";person g plain has 5",
            ";person g plain has 5 dies", ";near", ";near a", ";asked", ";asked a", ";asked a b", ";asked a b at",
            ";heard", ";heard a", ";heard a b", ";heard a b at", ";heard a b at 1", ";heard a b at 1 give", ";went",
            ";went a", ";"};
        String five = HEAD + Edges.people(5, "plain", 5, 5);
        for (String end : ends) {
            spoilt(due, five + end + "^", 1);
            spoilt(due, five + end + " ^?", 1);
            spoilt(due, five + end + " ^;", 1);
            // The end lies behind all of the n bytes, blanks too.
            spoilt(due, five + end + "   ^", 1);
        }
        spoilt(due, "^cities hour 9 gives 1", 1);
        spoilt(due, "city ^hours 9 gives 1", 1);
        spoilt(due, "city hour 9 ^give 1", 1);
        spoilt(due, five + ";^persons g", 1);
        spoilt(due, five + ";^cat a b", 1);
        spoilt(due, five + ";^a b", 1);
        spoilt(due, five + ";^5", 1);
        spoilt(due, five + ";person g plain ^had 5", 1);
        spoilt(due, five + ";person g plain has 5 ^die 5", 1);
        spoilt(due, five + ";person ^5 plain", 1);
        spoilt(due, five + ";asked a b ^on 5", 1);
        spoilt(due, five + ";asked a b at ^b", 1);
        spoilt(due, five + ";asked a b at 5 ^give 1", 1);
        spoilt(due, five + ";heard a b at 5 ^gives 1", 1);
        spoilt(due, five + ";near a b ^c", 1);
        spoilt(due, five + ";near a ^5", 1);
        spoilt(due, five + ";went a ^5", 1);
        spoilt(due, five + " ^near a b", 1);
    }

    private static void faultsTwoAndThree(Edges due) {
        due.sentence(4, "2 a NAME that isn't told; at it.");
        for (String line : new String[] {"near ^x a", "near a ^x", "asked ^x a at 1", "asked a ^x at 1", "heard ^x a at 1 give 1",
            "heard a ^x at 1 give 1", "went ^x a", "went a ^x", "went ^x cat", "near ^aa b", "near a ^hour"}) {
            spoilt(due, SIX + ";" + line, 2);
        }

        due.sentence(4, "3 a NAME told again; at it; a second PERSON that is the first, is near that one already, or "
            + "was asked (or heard asked) by that one already");
        spoilt(due, ONE + ";person ^a plain has 5 dies 5", 3);
        for (String line : new String[] {"near b ^b", "asked b ^b at 1", "heard b ^b at 1 give 1", "went b ^b",
            "near a b;near b ^a", "near a b;near a ^b", "asked a b at 1;asked a ^b at 1", "asked a b at 1;heard a ^b at 1 give 0",
            "heard a b at 1 give 0;heard a ^b at 1 give 0", "heard a b at 1 give 0;asked a ^b at 1"}) {
            spoilt(due, SIX + ";" + line, 3);
        }

        due.sentence(4, "a first one of went told already; at it; a second city: at that WORD.");
        spoilt(due, SIX + ";went f cat;went ^f a", 3);
        spoilt(due, HEAD + ";^city hour 9 gives 1", 3);
        spoilt(due, ONE + "; ^city hour 9 gives 1", 3);
        spoilt(due, SIX + ";^city", 3);
    }

    private static void faultsFourAndFive(Edges due) {
        due.sentence(4, "4 a WHOLE out of bounds; at it.");
        spoilt(due, "city hour  ^100", 4);
        spoilt(due, "city hour 99 gives ^10", 4);
        spoilt(due, HEAD + ";person a plain has  ^100", 4);
        spoilt(due, HEAD + ";person a plain has 99 dies ^101", 4);
        spoilt(due, SIX + ";asked a b at ^10", 4);
        spoilt(due, SIX + ";heard a b at ^10", 4);
        spoilt(due, SIX + ";heard a b at 9 give ^4", 4);

        due.sentence(4, "5 MANY: a LINE more of its sort than there is room for, at its first WORD.");
        spoilt(due, SIX + "; ^person", 5);
        spoilt(due, SIX + ";^person a", 5);
        spoilt(due, twelve() + ";^asked", 5);
        spoilt(due, twelve() + ";^asked x", 5);
        String heard = ";heard a b at 1 give 1;heard b c at 1 give 1;heard c d at 1 give 1";
        spoilt(due, SIX + heard + ";^heard", 5);
        spoilt(due, SIX + heard + ";^heard a b", 5);
        due.is("size(4): each sort has room of its own", due.city(SIX + heard + ";asked a c at 1", 6).size(4), 1);
        spoilt(due, SIX + ";near a b;near a c;near a d;near a e;near a f;near b c;near b d;near b e;near b f;^near", 5);
    }

    private static void faultSix(Edges due) {
        due.sentence(4, "6 LACKS: any LINE ahead of the city; at its WORD; at the end: no person.");
        for (String word : "person near asked heard went".split(" ")) {
            spoilt(due, "^" + word, 6);
            spoilt(due, "  ^" + word + " a b;" + HEAD, 6);
        }
        spoilt(due, HEAD + "^", 6);
        spoilt(due, HEAD + "   ^", 6);
        spoilt(due, " ".repeat(900 - HEAD.length()) + HEAD + "^", 6);
    }

    private static void faultSeven(Edges due) {
        due.sentence(4, "7 MUST NOT: a doctor that asks; at him; a shut one, or a walled one by who isn't near him by "
            + "then, that is asked; at him.");
        for (String word : new String[] {"asked", "heard"}) {
            spoilt(due, KINDS + ";" + word + " ^d a", 7);
            spoilt(due, KINDS + ";" + word + " ^d x", 7);
            spoilt(due, KINDS + ";near c d;" + word + " ^d c", 7);
            spoilt(due, KINDS + ";" + word + " a ^b", 7);
            spoilt(due, KINDS + ";near a b;" + word + " a ^b", 7);
            spoilt(due, KINDS + ";" + word + " a ^c", 7);
            spoilt(due, KINDS + ";near b c;" + word + " a ^c", 7);
            spoilt(due, KINDS + ";near a d;near d c;" + word + " a ^c", 7);
            spoilt(due, KINDS + ";" + word + " a ^c at 1;near a c", 7);
        }
        due.is("size(4)", due.city(KINDS + ";near c a;asked a c at 1;asked b a at 1;asked c a at 1;asked b d at 1"
            + ";asked c d at 1;near b c;asked b c at 1", 4).size(4), 6);
    }

    private static void leastNumber(Edges due) {
        due.sentence(4, "of one place the least number");
        spoilt(due, HEAD + ";^", 1);
        spoilt(due, "city hour 9^", 1);
        spoilt(due, KINDS + ";asked b ^b", 3);
        spoilt(due, KINDS + ";heard c ^c", 3);
        spoilt(due, KINDS + ";near a c;asked a c at 1;asked a ^c", 3);
        spoilt(due, "^persons a", 1);
        spoilt(due, "^foo", 1);
    }

    private static void firstFromTheLeft(Edges due) {
        due.sentence(4, "FAULTS, the first that is met from the left");
        spoilt(due, "city hour ^100 gives 10;foo", 4);
        spoilt(due, "^person a poor has 100;?", 6);
        spoilt(due, KINDS + ";asked ^d d", 7);
        spoilt(due, KINDS + ";asked ^x b", 2);
        spoilt(due, KINDS + ";asked a ^b at 100", 7);
        spoilt(due, KINDS + ";went a b;went ^a x", 3);
        spoilt(due, KINDS + ";near ^x x", 2);
        spoilt(due, SIX + ";^person a poor has 100", 5);
        spoilt(due, HEAD + ";person a plain has ^100 dies 101;person a", 4);
        // What comes behind a LINE with a FAULT isn't met.
        spoilt(due, "city hour ^100;foo", 4);
        spoilt(due, "city hour 9 gives ^10;foo", 4);
        for (String line : new String[] {"person g plain has ^100", "person g plain has 9 dies ^101", "asked a b at ^10",
            "heard a b at ^10", "heard a b at 9 give ^4"}) {
            spoilt(due, HEAD + Edges.people(5, "plain", 5, 5) + ";" + line + ";foo", 4);
        }
        for (String line : new String[] {"near ^x", "near a ^x", "asked ^x", "asked a ^x", "heard a ^x", "went ^x", "went a ^x"}) {
            spoilt(due, SIX + ";" + line + ";foo", 2);
        }
        for (String line : new String[] {"near a ^a", "asked a ^a", "heard a ^a", "went a ^a", "^city"}) {
            spoilt(due, SIX + ";" + line + ";foo", 3);
        }
    }
}

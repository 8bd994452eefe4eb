/** Promises 1 to 5: a new object, feed, city, fault, where; and the text of a CITY with its FAULTS. */
public final class CityTest {
    private static final String HEAD = "city hour 9 gives 1";
    private static final String FOUR = HEAD + ";person a plain has 5 dies 5;person b shut has 5 dies 5"
        + ";person c walled has 5 dies 5;person d doctor has 5 dies 5";
    private static final String FIVE = HEAD + ";person a plain has 1 dies 0;person b plain has 2 dies 0"
        + ";person c plain has 3 dies 0;person d plain has 4 dies 0;person e plain has 5 dies 0";

    private static void newObject(Due due) {
        LastAsked x = new LastAsked();
        for (int what = 0; what <= 12; what++) {
            due.is("size(" + what + ") of a new object", x.size(what), 0);
        }
        due.is("fault() of a new object", x.fault(), 0);
        due.is("where() of a new object", x.where(), -1);
        due.is("trouble() of a new object", x.trouble(), 0);
        due.refused(x, "cat()", x.cat(), 1);
        due.refused(x, "person(0, 0)", x.person(0, 0), 1);
        due.refused(x, "back(0)", x.back(0), 1);
        due.refused(x, "undo()", x.undo(), 6);
        due.throwsNoSuch("led(0)", x, 0);
    }

    private static void feeding(Due due) {
        LastAsked x = new LastAsked();
        due.refused(x, "city(1)", x.city(1), 2);
        for (int i = 1; i <= 45; i++) {
            due.is("feed " + i, x.feed(0x20202020, 0x20202020, 0x20202020, 0x20202020, 0x20202020), 20 * i);
        }
        due.is("feed 46", x.feed(0, 0, 0, 0, 0), -1);
        due.is("trouble() is not feed's", x.trouble(), 2);
        due.is("size(12)", x.size(12), 900);
        due.refused(x, "city(901)", x.city(901), 2);
        due.refused(x, "city(-1)", x.city(-1), 2);
        due.is("size(12) stays", x.size(12), 900);
        due.refused(x, "city(900)", x.city(900), 4);
        due.is("fault()", x.fault(), 1);
        due.is("where()", x.where(), 900);
        due.is("size(12)", x.size(12), 0);
        due.refused(x, "city(1)", x.city(1), 2);
        due.is("fault() stays", x.fault(), 1);
        due.is("where() behind 2", x.where(), -1);
        due.city(HEAD + ";person a plain has 5 dies 5" + " ".repeat(900 - 47), 1);
        // Bytes come the highest first, and a number's sign is a byte's highest bit.
        LastAsked y = new LastAsked();
        y.feed(0x63697479, 0xE3000000, 0, 0, 0);
        due.refused(y, "city(8)", y.city(8), 4);
        due.is("fault()", y.fault(), 1);
        due.is("where()", y.where(), 4);
    }

    private static void cityAgain(Due due) {
        LastAsked x = due.city(FIVE + ";asked a b at 9;heard b c at 4 give 2;went a cat;near a b", 5);
        x.seed(77);
        x.ask(0, 1);
        x.image();
        Due.feedAll(x, "city hour 100");
        due.refused(x, "city(13)", x.city(13), 4);
        due.is("size(2): the CITY stays", x.size(2), 5);
        due.is("size(9) stays", x.size(9), 77);
        due.is("size(10) stays", x.size(10), 1);
        due.is("size(11) stays", x.size(11), 1);
        due.is("person(0, 1) stays", x.person(0, 1), 2);
        due.is("fault() stays behind other calls", x.fault(), 4);
        due.is("where() behind an answer", x.where(), -1);
        x.die(0);
        x.die(1);
        x.night();
        String text = "city hour 3 gives 2;person q plain has 8 dies 1";
        Due.feedAll(x, text);
        due.answered(x, "city of the next", x.city(text.length()), 1);
        int[] sizes = {3, 2, 1, 0, 0, 0, 0, 1, 0, 0, 0, 0, 0};
        for (int what = 0; what <= 12; what++) {
            due.is("size(" + what + ") of the next", x.size(what), sizes[what]);
        }
        due.is("cat() of the next", x.cat(), 0);
        due.is("fault() of the next", x.fault(), 0);
        due.is("person(0, 1) of the next", x.person(0, 1), 8);
        due.is("person(0, 4) of the next", x.person(0, 4), 0);
        due.is("undo() of the next", x.undo(), false);
        due.is("back(0) of the next", x.back(0), false);
        Due.feedAll(x, FIVE);
        x.city(FIVE.length());
        due.is("register(0, 1) of the third", x.register(0, 1), -2);
        due.is("apart(0, 1) of the third", x.apart(0, 1), -2);
        due.is("judge() of the third", x.judge(), -2);
    }

    private static void form(Due due) {
        due.fault("", 1, 0);
        due.fault("   ", 1, 3);
        due.fault("foo", 1, 0);
        due.fault("cat", 1, 0);
        due.fault(";", 1, 0);
        due.fault("7", 1, 0);
        due.fault("City", 1, 0);
        due.fault("city\thour", 1, 4);
        due.fault("city", 1, 4);
        due.fault("city  ", 1, 6);
        due.fault("city hour", 1, 9);
        due.fault("city hours 9", 1, 5);
        due.fault("city hour x", 1, 10);
        due.fault("city hour 1000 gives 1", 1, 10);
        due.fault("city hour 9 gives", 1, 17);
        due.fault("city hour 9 give 1", 1, 12);
        due.fault(HEAD + ";", 1, 20);
        due.fault(HEAD + " person", 1, 20);
        due.fault(HEAD + ";;", 1, 20);
        due.fault(HEAD + ";person", 1, 26);
        due.fault(HEAD + ";person 7", 1, 27);
        due.fault(HEAD + ";person abcdefghi plain", 1, 27);
        due.fault(HEAD + ";person a plaid", 1, 29);
        due.fault(HEAD + ";person a plain has", 1, 38);
        due.fault(HEAD + ";person a plain has x", 1, 39);
        due.fault(HEAD + ";person a plain has 5 dies 5 5", 1, 48);
        due.fault(HEAD + ";person a plain has 5 dies 5;", 1, 48);
        due.fault(FOUR + ";near a", 1, 139);
        due.fault(FOUR + ";near cat a", 1, 138);
        due.fault(FOUR + ";near a 5", 1, 140);
        due.fault(FOUR + ";asked a d 5", 1, 143);
        due.fault(FOUR + ";asked a d at 5 give 1", 1, 148);
        due.fault(FOUR + ";heard a d at 5", 1, 147);
        due.fault(FOUR + ";went cat a", 1, 138);
        due.fault(FOUR + ";went a ;", 1, 140);
        for (String kept : new String[] {"city", "person", "near", "asked", "heard", "went", "cat"}) {
            due.fault(HEAD + ";person " + kept, 1, 27);
        }
        due.fault("city hour ?", 1, 10);
        due.fault("city hour 9 gives 'x", 1, 18);
        due.fault("city hour 9{", 1, 11);
        due.fault("city hour 9`", 1, 11);
        due.fault("city hour :9", 1, 10);
        due.fault("city hour /9", 1, 10);
        due.city(HEAD + ";person az plain has 5 dies 5;person za plain has 5 dies 5;went za az", 2);
        due.city(HEAD + ";person hour plain has 5 dies 5;person plain plain has 5 dies 5;asked hour plain at 3", 2);
        due.city("  city hour 09gives 001;person abcdefgh plain has 5dies 5   ", 1);
    }

    private static void otherFaults(Due due) {
        due.fault(FOUR + ";near x", 2, 138);
        due.fault(FOUR + ";near a x", 2, 140);
        due.fault(FOUR + ";asked x", 2, 139);
        due.fault(FOUR + ";asked a x", 2, 141);
        due.fault(FOUR + ";heard a x", 2, 141);
        due.fault(FOUR + ";went x", 2, 138);
        due.fault(FOUR + ";went a x", 2, 140);
        due.fault(FOUR + ";person a", 3, 140);
        due.fault(FOUR + ";near b b", 3, 140);
        due.fault(FOUR + ";near a c;near a c", 3, 149);
        due.fault(FOUR + ";near a c;near c a", 3, 149);
        due.fault(FOUR + ";asked b b", 3, 141);
        due.fault(FOUR + ";asked a d at 5;asked a d", 3, 156);
        due.fault(FOUR + ";asked a d at 5;heard a d", 3, 156);
        due.fault(FOUR + ";heard a d at 5 give 0;asked a d", 3, 163);
        due.fault(FOUR + ";went a a", 3, 140);
        due.fault(FOUR + ";went a b;went a", 3, 147);
        due.fault(FOUR + ";city", 3, 133);
        due.fault(HEAD + ";city", 3, 20);
        due.fault("city hour 100", 4, 10);
        due.fault("city hour 9 gives 10", 4, 18);
        due.fault(HEAD + ";person a plain has 100", 4, 39);
        due.fault(HEAD + ";person a plain has 5 dies 101", 4, 46);
        due.fault(FOUR + ";asked a d at 10", 4, 146);
        due.fault(FOUR + ";heard a d at 10", 4, 146);
        due.fault(FOUR + ";heard a d at 9 give 4", 4, 153);
        due.fault("person a", 6, 0);
        due.fault(" near", 6, 1);
        due.fault("asked", 6, 0);
        due.fault("heard", 6, 0);
        due.fault("went", 6, 0);
        due.fault(HEAD, 6, 19);
        due.fault(HEAD + "  ", 6, 21);
        due.fault(FOUR + ";asked d", 7, 139);
        due.fault(FOUR + ";heard d", 7, 139);
        due.fault(FOUR + ";asked a b", 7, 141);
        due.fault(FOUR + ";asked a c at 3;near a c", 7, 141);
        due.fault(FOUR + ";near b c;heard a c", 7, 150);
        due.city(FOUR + ";near a c;asked a c at 9;asked b d at 0;heard b a at 9 give 3", 4);
    }

    /** The first FAULT from the left is told, whatever comes behind it. */
    private static void firstFault(Due due) {
        due.fault("city hour 100 gives 10;foo", 4, 10);
        due.fault("city hour x;person a", 1, 10);
        due.fault("city hour 9 gives 10;foo;person a", 4, 18);
        due.fault("foo;person a", 1, 0);
        due.fault("person a;foo", 6, 0);
        due.fault(HEAD + ";person cat;person a poor", 1, 27);
        due.fault(HEAD + ";person a poor;foo", 1, 29);
        due.fault(HEAD + ";person a plain has 100;foo", 4, 39);
        due.fault(HEAD + ";person a plain has 5 dies 101;foo", 4, 46);
        due.fault(FOUR + ";person a;foo", 3, 140);
        due.fault(FOUR + ";near x;foo", 2, 138);
        due.fault(FOUR + ";near a x;foo", 2, 140);
        due.fault(FOUR + ";near a a;foo", 3, 140);
        due.fault(FOUR + ";asked d;foo", 7, 139);
        due.fault(FOUR + ";asked x;foo", 2, 139);
        due.fault(FOUR + ";asked a x;foo", 2, 141);
        due.fault(FOUR + ";asked a b;foo", 7, 141);
        due.fault(FOUR + ";asked a d at 10;foo", 4, 146);
        due.fault(FOUR + ";heard a d at 10;foo", 4, 146);
        due.fault(FOUR + ";heard a d at 9 give 4;foo", 4, 153);
        due.fault(FOUR + ";went x;foo", 2, 138);
        due.fault(FOUR + ";went a x;foo", 2, 140);
        due.fault(FOUR + ";went a a;foo", 3, 140);
        due.fault(FOUR + ";went a b;went a;foo", 3, 147);
        due.fault(FOUR + ";city;foo", 3, 133);
        due.fault(FOUR + " foo;near x", 1, 133);
    }

    private static void rooms(Due due) {
        due.city("city hour 99 gives 9;person a plain has 99 dies 100", 1);
        String six = FIVE + ";person f plain has 6 dies 0";
        due.city(six, 6);
        due.fault(six + ";person g", 5, six.length() + 1);
        String near = FIVE + ";near a b;near a c;near a d;near a e;near b c;near b d;near b e;near c d;near c e";
        due.is("size(3)", due.city(near, 5).size(3), 9);
        due.fault(near + ";near d e", 5, near.length() + 1);
        String asked = FIVE;
        for (String two : "a b,a c,a d,a e,b a,b c,b d,b e,c a,c b,c d,c e".split(",")) {
            asked = asked + ";asked " + two + " at 9";
        }
        String heard = ";heard d a at 9 give 3;heard d b at 0 give 0;heard d c at 1 give 1";
        LastAsked x = due.city(asked + heard + ";went a b;went b cat", 5);
        due.is("size(4)", x.size(4), 12);
        due.is("size(5)", x.size(5), 3);
        due.is("size(6)", x.size(6), 2);
        due.fault(asked + ";asked d e", 5, asked.length() + 1);
        due.fault(asked + heard + ";heard d e", 5, asked.length() + heard.length() + 1);
    }

    public static void main(String[] args) {
        Due due = new Due();
        newObject(due);
        feeding(due);
        cityAgain(due);
        form(due);
        otherFaults(due);
        firstFault(due);
        rooms(due);
        due.end();
    }
}

import java.nio.charset.StandardCharsets;

/** What the tests of this project share: feeding a text, and counting answers that are not as due. */
class Due {
    private int wrong = 0;
    private int right = 0;

    void is(String call, long got, long want) {
        if (got == want) {
            right++;
        } else {
            wrong++;
            System.out.println(call + " answered " + got + ", due is " + want);
        }
    }

    void is(String call, boolean got, boolean want) {
        is(call, got ? 1 : 0, want ? 1 : 0);
    }

    /** The latest call was refused with this answer, and by this TROUBLE. */
    void refused(LastAsked x, String call, long got, int trouble) {
        is(call, got, LastAsked.NONE);
        is(call + ": trouble()", x.trouble(), trouble);
    }

    void refused(LastAsked x, String call, boolean got, int trouble) {
        is(call, got, false);
        is(call + ": trouble()", x.trouble(), trouble);
    }

    /** The latest call was answered. */
    void answered(LastAsked x, String call, long got, long want) {
        is(call, got, want);
        is(call + ": trouble()", x.trouble(), 0);
    }

    void fraction(String call, long upper, long lower, long wantUpper, long wantLower) {
        is(call + " upper", upper, wantUpper);
        is(call + " lower", lower, wantLower);
    }

    void throwsNoSuch(String call, LastAsked x, int i) {
        boolean thrown = false;
        try {
            x.led(i);
        } catch (java.util.NoSuchElementException e) {
            thrown = true;
        }
        is(call + " throws", thrown, true);
    }

    /** A text that is refused by a FAULT at a place. */
    void fault(String text, int number, int place) {
        LastAsked x = new LastAsked();
        feedAll(x, text);
        is("city of '" + text + "'", x.city(text.length()), LastAsked.NONE);
        is("trouble() behind '" + text + "'", x.trouble(), 4);
        is("fault() of '" + text + "'", x.fault(), number);
        is("where() of '" + text + "'", x.where(), place);
        is("size(2) behind '" + text + "'", x.size(2), 0);
    }

    /** A text that is a CITY. */
    LastAsked city(String text, int people) {
        LastAsked x = new LastAsked();
        feedAll(x, text);
        is("city of '" + text + "'", x.city(text.length()), people);
        is("trouble() behind '" + text + "'", x.trouble(), 0);
        is("fault() of '" + text + "'", x.fault(), 0);
        is("where() of '" + text + "'", x.where(), LastAsked.NONE);
        return x;
    }

    static void feedAll(LastAsked x, String text) {
        int[] numbers = numbers(text);
        for (int i = 0; i < numbers.length; i += 5) {
            x.feed(numbers[i], numbers[i + 1], numbers[i + 2], numbers[i + 3], numbers[i + 4]);
        }
    }

    /** The text as numbers for feed(), blanks behind it. */
    static int[] numbers(String text) {
        byte[] bytes = text.getBytes(StandardCharsets.ISO_8859_1);
        int feeds = (bytes.length + 19) / 20;
        int[] numbers = new int[feeds * 5];
        for (int i = 0; i < feeds * 20; i++) {
            int b = i < bytes.length ? bytes[i] & 255 : ' ';
            numbers[i / 4] = numbers[i / 4] << 8 | b;
        }
        return numbers;
    }

    void end() {
        System.out.println(right + " answers as due, " + wrong + " not");
        if (wrong != 0 || right == 0) {
            System.exit(1);
        }
    }
}

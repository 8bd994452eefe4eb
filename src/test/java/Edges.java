import java.io.IOException;
import java.util.Map;
import java.util.Set;
import java.util.TreeMap;
import java.util.TreeSet;
import java.util.function.IntToLongFunction;

/** Counts answers by the sentence of the document that they are due by. */
final class Edges extends Due {
    private final Doc doc = new Doc();
    private final Map<Integer, Integer> sentences = new TreeMap<>();
    private final Map<Integer, Set<Integer>> troubles = new TreeMap<>();
    private String label = "";
    private int promise = 0;
    private int checks = 0;

    Edges() throws IOException {
    }

    /** What is asked from here on is due by these words of a promise, or of a term that it leans on. */
    void sentence(int number, String words) {
        closeSentence();
        promise = number;
        label = "promise " + number + ", '" + words + "': ";
        checks = 0;
        sentences.merge(number, 1, Integer::sum);
        if (!doc.says(number, words)) {
            is("the document says so", 0, 1);
        }
    }

    private void closeSentence() {
        if (promise != 0 && checks == 0) {
            super.is(label + "answers asked for", 0, 1);
        }
    }

    @Override
    void is(String call, long got, long want) {
        checks++;
        super.is(label + call, got, want);
    }

    /** Refused with NONE, and by this TROUBLE. */
    @Override
    void refused(LastAsked x, String call, long got, int trouble) {
        super.refused(x, call, got, trouble);
        troubles.computeIfAbsent(promise, p -> new TreeSet<>()).add(trouble);
    }

    @Override
    void refused(LastAsked x, String call, boolean got, int trouble) {
        refused(x, call, got ? 0L : LastAsked.NONE, trouble);
    }

    /** A number that goes from least to greatest: those two are right; one less, one more and the farthest ones aren't. */
    void bounds(LastAsked x, String call, IntToLongFunction by, int least, int greatest, int trouble) {
        for (int v : new int[] {least - 1, greatest + 1, Integer.MIN_VALUE, Integer.MAX_VALUE}) {
            refused(x, call + " by " + v, by.applyAsLong(v), trouble);
        }
        for (int v : new int[] {least, greatest}) {
            by.applyAsLong(v);
            is(call + " by " + v + ": trouble()", x.trouble(), 0);
        }
    }

    /** All that can be seen of a CITY and its state but TROUBLE, THE TAPE left out; some 80 calls. */
    static String picture(LastAsked x) {
        StringBuilder seen = new StringBuilder();
        for (int what = 0; what <= 11; what++) {
            seen.append(x.size(what)).append(' ');
        }
        seen.append(x.cat()).append(' ');
        int people = x.size(2);
        for (int p = 0; p < people; p++) {
            for (int what = 0; what <= 6; what++) {
                seen.append(x.person(p, what)).append(' ');
            }
            for (int of = 0; of < people; of++) {
                seen.append(p == of ? 0 : x.register(p, of)).append(' ');
            }
        }
        return seen.toString();
    }

    void stays(String call, LastAsked x, String ahead) {
        String behind = picture(x);
        is(call + ": all stays as it was, " + ahead + "(now " + behind + ")", behind.equals(ahead), true);
    }

    /** Each promise has sentences, and each TROUBLE that a promise tells was met by it, and no other one. */
    @Override
    void end() {
        closeSentence();
        label = "";
        is("promises of the document", doc.promises(), Doc.PROMISES);
        for (int p = 1; p <= Doc.PROMISES; p++) {
            is("promise " + p + ": it has sentences", sentences.containsKey(p), true);
            Set<Integer> met = troubles.getOrDefault(p, Set.of());
            is("promise " + p + ": TROUBLES told " + doc.troubles(p) + ", met " + met, met.equals(doc.troubles(p)), true);
        }
        int count = sentences.values().stream().mapToInt(Integer::intValue).sum();
        System.out.println(count + " sentences");
        super.end();
    }

    /** People a, b, c .. of one KIND. */
    static String people(int count, String kind, int has, int dies) {
        StringBuilder text = new StringBuilder();
        for (int p = 0; p < count; p++) {
            text.append(";person ").append((char) ('a' + p)).append(' ').append(kind);
            text.append(" has ").append(has).append(" dies ").append(dies);
        }
        return text.toString();
    }

    /** Each of so many is the HEIR of the one ahead of him: a's is b, b's is c, and so on. */
    static String chain(int count) {
        StringBuilder text = new StringBuilder();
        for (int p = 1; p < count; p++) {
            text.append(";asked ").append((char) ('a' + p)).append(' ').append((char) ('a' + p - 1)).append(" at 1");
        }
        return text.toString();
    }
}

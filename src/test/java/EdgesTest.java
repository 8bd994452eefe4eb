import java.io.IOException;

/**
 * Sentence by sentence: each that names a boundary case has answers of its own, under the promise's number and its words.
 * The run fails if a promise has no sentence here, or if a TROUBLE that it tells was never met.
 */
public final class EdgesTest {
    public static void main(String[] args) throws IOException {
        Edges due = new Edges();
        CityEdges.all(due);
        NowEdges.all(due);
        ChanceEdges.all(due);
        HoursEdges.all(due);
        ActsEdges.all(due);
        due.end();
    }
}

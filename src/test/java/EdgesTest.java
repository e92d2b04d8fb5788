import java.io.IOException;

/** For each sentence of the document that names a boundary case, a test of its own. */
public final class EdgesTest {
    public static void main(String[] args) throws IOException {
        Doc.read();
        EdgesOfTowns.all();
        EdgesOfRules.all();
        EdgesOfFaults.all();
        EdgesOfDays.all();
        EdgesOfActs.all();
        EdgesOfAsking.all();
        EdgesOfSearches.all();
        EdgesOfCalls.all();
        EdgesOfAnswers.all();
        Doc.end();
        Due.end();
    }
}

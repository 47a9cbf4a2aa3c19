import java.io.IOException;

/**
 * Each sentence of the document that names a boundary case, and what holds it. A test quotes its sentence by Doc.says(),
 * which also finds it in ../shared/DOC.md; a failure tells the Promise (or the part of the Terms) and the sentence.
 */
public final class EdgesTest {
    private EdgesTest() {
    }

    public static void main(String[] args) throws IOException {
        Doc.read();
        EdgesOfDaysAndPlaces.all();
        EdgesOfHeld.all();
        EdgesOfRelease.all();
        EdgesOfTelling.all();
        EdgesOfAsking.all();
        Doc.checkAllSpokenOf();
        Due.close("EdgesTest");
    }
}

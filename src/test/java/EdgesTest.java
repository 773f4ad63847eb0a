import java.io.IOException;

/** Each sentence of the document that names an edge (too small, too large, empty, full, wrapped, refused). */
public final class EdgesTest {
    private EdgesTest() {
    }

    public static void main(String[] args) throws IOException {
        Sentences s = new Sentences("EdgesTest");
        EdgesOfPieces.look(s);
        EdgesOfSeas.look(s);
        EdgesOfTexts.look(s);
        EdgesInMind.look(s);
        EdgesOfSands.look(s);
        EdgesOfYaws.look(s);
        EdgesOfWhips.look(s);
        EdgesOfImages.look(s);
        EdgesOfShelves.look(s);
        EdgesOfRefusals.look(s);
        s.end();
    }
}

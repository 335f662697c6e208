import java.io.IOException;

/** Every sentence of the document that names a boundary case, with a test of its own. */
public final class EdgesTest {
    public static void main(String[] args) throws IOException {
        Doc.read();
        TermsEdges.all();
        ThingsEdges.all();
        PackingsEdges.all();
        SheetsEdges.all();
        Doc.allIsQuoted();
        Check.end();
    }
}

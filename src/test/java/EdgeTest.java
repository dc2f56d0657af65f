/**
 * The document once more, sentence by sentence: each test quotes the one that it is for and looks at its edges, and in
 * the end every sentence of the Terms and of the promises must have been quoted. With an argument "list" it tells which
 * sentence is looked at in which test.
 */
public final class EdgeTest {
    public static void main(String[] args) throws Exception {
        Doc.read();
        LandEdges.all();
        WorldEdges.all();
        SignEdges.all();
        WayEdges.all();
        KeepEdges.all();
        Doc.end();
        if (args.length > 0 && args[0].equals("list")) {
            Doc.list();
        }
        Check.end("EdgeTest");
    }
}

import java.nio.file.Path;

/** Each sentence of the document that names a boundary case, by the promise and its own words. */
public final class EdgesTest {
    private EdgesTest() {
    }

    public static void main(String[] args) {
        TermsEdges.all();
        TextEdges.all();
        FieldEdges.all();
        MinuteEdges.all();
        ReplyEdges.all();
        ToldEdges.all();
        SheetEdges.all();
        if (!Edges.finish(Path.of(args.length > 0 ? args[0] : "../shared/DOC.md"))) {
            System.exit(1);
        }
    }
}

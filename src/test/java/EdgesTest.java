import java.io.IOException;
import java.nio.file.Files;
import java.nio.file.Path;

/** Each sentence of the document, from its first line to its last, by the section and its own words. */
public final class EdgesTest {
    private EdgesTest() {
    }

    public static void main(String[] args) throws IOException {
        String document = Files.readString(Path.of(args.length > 0 ? args[0] : "../shared/DOC.md"));
        String source = Files.readString(Path.of(args.length > 1 ? args[1] : "src/main/java/KegBrooks.java"));
        FaceEdges.all(document, source);
        TermsEdges.all();
        TextEdges.all();
        FieldEdges.all();
        MinuteEdges.all();
        ReplyEdges.all();
        ToldEdges.all();
        SheetEdges.all();
        if (!Edges.finish(document)) {
            System.exit(1);
        }
    }
}

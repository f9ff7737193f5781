import java.io.IOException;

/** Every sentence of the document that names a boundary case; with an argument it also tells what isn't quoted. */
public final class EdgesTest {
    public static void main(String[] args) throws IOException {
        Sentences says = new Sentences("EdgesTest");
        new EdgesOfText(says).all();
        new EdgesOfLooks(says).all();
        new EdgesOfBest(says).all();
        new EdgesOfTold(says).all();
        says.endSentences(args.length > 0);
    }
}

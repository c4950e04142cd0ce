import java.util.Set;

/** Each sentence of the document that names a boundary case, in runs of calls of its own. */
public final class EdgesTest {
    public static void main(String[] args) {
        EdgesOfTrays.all();
        EdgesOfTexts.all();
        EdgesOfRow.all();
        EdgesOfTree.all();
        EdgesOfWalker.all();
        EdgesOfPins.all();
        EdgesOfGames.all();
        EdgesOfTours.all();
        EdgesOfMarks.all();
        Check.due("sentences that no test quotes", String.join(" | ", Document.unquoted()), "");
        Document.refusals().forEach((name, due) -> Check.due(
            "STATUS that " + name + " was refused with",
            Edges.REFUSED.getOrDefault(name, Set.of()).toString(), due.toString()));
        Check.end();
    }
}

/**
 * The document sentence by sentence: what it says of the lowest and the highest, of what is full or empty, of days right
 * at, ahead of and behind a limit, and of each exception, with nothing changed by it.
 */
public final class EdgesTest {
    public static void main(String[] args) {
        Check check = new Check("EdgesTest");
        new AskedEdges(check).all();
        new CommunityEdges(check).all();
        new PersonEdges(check).all();
        new MarriageEdges(check).all();
        new EstateEdges(check).all();
        new SuitEdges(check).all();
        check.allIsQuoted();
        check.end();
    }
}

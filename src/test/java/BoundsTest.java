import java.io.IOException;

/** Each sentence of the document that names a bound or a refusal, on both sides of it. Runs in the project's folder. */
public final class BoundsTest {
    public static void main(String[] args) throws IOException {
        Sentences s = new Sentences();
        new TextBounds(s).run();
        new ChurchBounds(s).run();
        new OrderBounds(s).run();
        new SeenBounds(s).run();
        new MeanBounds(s).run();
        new SlotBounds(s).run();
        new ActBounds(s).run();
        new WeekBounds(s).run();
        new WholeBounds(s).run();
        s.end();
    }
}

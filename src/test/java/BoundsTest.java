import java.io.IOException;

/** Every sentence of the terms and of the promises 1 to 33 that names a bound, on both sides of it. */
public final class BoundsTest {
    public static void main(String[] args) throws IOException {
        Bounds bounds = new Bounds();
        new LandBounds(bounds).ask();
        new TextBounds(bounds).ask();
        new LawBounds(bounds).ask();
        new DayBounds(bounds).ask();
        new ThoughtBounds(bounds).ask();
        new KindBounds(bounds).ask();
        new UndoBounds(bounds).ask();
        new RefusedCalls(bounds).ask();
        bounds.end();
    }
}

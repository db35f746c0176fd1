/** A first look at the whole class. */
public final class SharedStartTest {
    public static void main(String[] args) {
        Texts.dueKinds("x\n", "4 1 0");
        Check.end("SharedStartTest");
    }
}

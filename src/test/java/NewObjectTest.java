/** A first look that a new object answers at all; the promises' own tests stand beside it. */
public final class NewObjectTest {
    public static void main(String[] args) {
        if (new WovenRows().told(1) != 0) {
            System.out.println("told(1) of a new object is not 0");
            System.exit(1);
        }
    }
}

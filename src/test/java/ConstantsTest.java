/** The constants of the face: what the document says of them. */
public final class ConstantsTest {
    public static void main(String[] args) {
        boolean good = BeachIsRelaid.NONE == -1 && BeachIsRelaid.BAD == -2 && BeachIsRelaid.STATE == -3
            && BeachIsRelaid.FULL == -4 && BeachIsRelaid.NO == -4611686018427387904L;
        System.out.println(good ? "all constants are as due" : "a constant is not as due");
        if (!good) {
            System.exit(1);
        }
    }
}

public final class NewObjectTest {
    public static void main(String[] args) {
        if (new TandemClocks().clock(7, 2) != 700) System.exit(1);
    }
}

public final class FirstTest {
    public static void main(String[] args) {
        Check check = new Check("FirstTest");
        check.due("NONE", WristPort.NONE, -1);
        check.end();
    }
}

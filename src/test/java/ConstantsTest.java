public final class ConstantsTest {
    public static void main(String[] args) {
        if (GateField.NONE != -1) { System.out.println("NONE"); System.exit(1); }
    }
}

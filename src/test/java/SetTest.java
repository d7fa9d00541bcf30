/** Promise 8: inputs are set. */
public final class SetTest {
    public static void main(String[] args) {
        Due due = new Due("SetTest");
        takesLowestBits(due);
        isSeenAtOnce(due);
        wrongInputs(due);
        due.end();
    }

    private static void takesLowestBits(Due due) {
        LowForge forge = due.compiled("Ia:U4;Ib:U16;Ic:U1;");
        due.same("what it had", forge.set(0, 21), 0);
        due.same("the lowest four of 21", forge.set(0, -1), 5);
        due.same("the lowest four of -1", forge.set(0, 16), 15);
        due.same("the lowest four of 16", forge.set(0, Integer.MIN_VALUE), 0);
        due.same("another one", forge.set(1, -2), 0);
        due.same("sixteen bits", forge.value(1), 65534);
        due.same("one bit", forge.set(2, 3) + forge.value(2), 1);
    }

    private static void isSeenAtOnce(Due due) {
        LowForge forge = due.compiled("Ia:{x:U4,y~:U4};Ob:{x:U4,y~:U4};b<=a;");
        due.same("of I", forge.set(0, 7), 0);
        due.same("of O, flipped", forge.set(3, 8), 0);
        due.same("reaches O", forge.value(2), 7);
        due.same("reaches I, flipped", forge.value(1), 8);
        forge.clock(3);
        due.same("it stays", forge.set(0, 1), 7);
    }

    private static void wrongInputs(Due due) {
        LowForge forge = due.compiled("Ia:{x:U4,y~:U4};Ob:{x:U4,y~:U4};b<=a;Wc:U1;c<=1;Rd:U1;Ne=1;");
        for (int k : new int[] {1, 2, 4, 5, 6}) {
            due.thrown("set(" + k + ")", UnsupportedOperationException.class, () -> forge.set(k, 1));
        }
        for (int k : new int[] {-1, 7, 24, Integer.MIN_VALUE, Integer.MAX_VALUE}) {
            due.thrown("set(" + k + ")", IndexOutOfBoundsException.class, () -> forge.set(k, 1));
        }
        due.same("nothing changes", forge.value(5), 0);
    }
}

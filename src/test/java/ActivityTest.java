/** Promise 11: how busy signals are. */
public final class ActivityTest {
    public static void main(String[] args) {
        Due due = new Due("ActivityTest");
        counter(due);
        inputs(due);
        wrongInputs(due);
        due.end();
    }

    private static void counter(Due due) {
        LowForge forge = due.compiled("Ra:U2;a<=+(a,1);Nb=T(a,1,1);Nc=1;Rd:U1;");
        due.same("without a clock", forge.activity(0), 0.0);
        forge.clock(1);
        due.same("0 before the first one", forge.activity(0), 0.0);
        due.same("a node that is 1 from the start", forge.activity(2), 1.0);
        forge.clock(2);
        due.same("a of three", forge.activity(0), 2.0 / 3.0);
        due.same("b of three", forge.activity(1), 1.0 / 3.0);
        due.same("c of three", forge.activity(2), 1.0 / 3.0);
        forge.clock(40);
        due.same("a of 43", forge.activity(0), 42.0 / 43.0);
        due.same("b of 43", forge.activity(1), 21.0 / 43.0);
        due.same("d of 43", forge.activity(3), 0.0);
        forge.compile();
        due.same("after another compile", forge.activity(0), 0.0);
        forge.clock(1);
        due.same("counted anew", forge.activity(2), 1.0);
    }

    private static void inputs(Due due) {
        LowForge forge = due.compiled("Ia:U4;Ob:U4;b<=a;");
        forge.set(0, 3);
        forge.set(0, 0);
        forge.clock(1);
        due.same("only what is before a clock", forge.activity(0), 0.0);
        forge.set(0, 3);
        forge.clock(1);
        forge.set(0, 4);
        forge.set(0, 3);
        forge.clock(1);
        forge.set(0, 0);
        forge.clock(1);
        due.same("set", forge.activity(0), 0.5);
        due.same("what depends on it", forge.activity(1), 0.5);
        forge.set(0, 9);
        due.same("not before the next clock", forge.activity(0), 0.5);
    }

    private static void wrongInputs(Due due) {
        LowForge forge = due.compiled("Ia:U4;");
        for (int round = 0; round < 2; round++) {
            for (int k : new int[] {-1, 1, 24, Integer.MIN_VALUE, Integer.MAX_VALUE}) {
                due.thrown("activity(" + k + ")", IndexOutOfBoundsException.class,
                        () -> forge.activity(k));
            }
            forge.clock(1);
        }
    }
}

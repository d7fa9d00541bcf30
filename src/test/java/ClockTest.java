/** Promise 10: clocks. */
public final class ClockTest {
    public static void main(String[] args) {
        Due due = new Due("ClockTest");
        counts(due);
        allAtOnce(due);
        staysUnconnected(due);
        wrongInputs(due);
        due.end();
    }

    private static void counts(Due due) {
        LowForge forge = due.compiled("Ra:U5;a<=+(a,1);Ob:U5;b<=a;");
        due.same("before", forge.value(0), 0);
        due.same("one", forge.clock(1), 1);
        due.same("register", forge.value(0), 1);
        due.same("what depends on it", forge.value(1), 1);
        due.same("forty", forge.clock(40), 41);
        due.same("wraps", forge.value(0), 9);
        due.same("two more", forge.clock(2), 43);
        forge.compile();
        due.same("since the compile", forge.clock(3), 3);
        LowForge empty = due.compiled("");
        due.same("an empty circuit", empty.clock(7), 7);
    }

    private static void allAtOnce(Due due) {
        LowForge forge = due.compiled("Ia:U4;Rb:U4;Rc:U4;Rd:U4;b<=a;c<=b;d<=c;");
        forge.set(0, 1);
        forge.clock(1);
        forge.set(0, 2);
        forge.clock(1);
        forge.set(0, 3);
        forge.clock(1);
        due.same("b", forge.value(1), 3);
        due.same("c", forge.value(2), 2);
        due.same("d", forge.value(3), 1);
        LowForge swap = due.compiled("Ra:U2;Rb:U2;a<=b;b<=+(a,1);");
        swap.clock(1);
        due.same("a before b", swap.value(0), 0);
        due.same("b of the old a", swap.value(1), 1);
        swap.clock(2);
        due.same("swapped", swap.value(0) * 10 + swap.value(1), 12);
    }

    private static void staysUnconnected(Due due) {
        LowForge forge = due.compiled("Ia:U1;Ib:U3;Rc:U2;Rd:U2;?a{c<=b;}");
        forge.set(0, 1);
        forge.set(1, 7);
        forge.clock(1);
        due.same("the lowest bits", forge.value(2), 3);
        forge.set(0, 0);
        forge.set(1, 1);
        forge.clock(5);
        due.same("it stays", forge.value(2), 3);
        due.same("never connected", forge.value(3), 0);
    }

    private static void wrongInputs(Due due) {
        LowForge forge = new LowForge();
        for (int n : new int[] {0, -1, 41, Integer.MIN_VALUE, Integer.MAX_VALUE}) {
            due.thrown("clock(" + n + ")", IllegalArgumentException.class, () -> forge.clock(n));
        }
        due.thrown("nothing compiled", IllegalStateException.class, () -> forge.clock(40));
        forge.text('I');
        due.thrown("a fault", IllegalArgumentException.class, forge::compile);
        due.thrown("still nothing", IllegalStateException.class, () -> forge.clock(1));
        forge.clear();
        forge.compile();
        for (int n : new int[] {0, -1, 41}) {
            due.thrown("clock(" + n + ")", IllegalArgumentException.class, () -> forge.clock(n));
        }
        due.same("none of them counted", forge.clock(1), 1);
    }
}

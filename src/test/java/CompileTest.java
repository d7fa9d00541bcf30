/** Promise 4: what compiles, what is refused, in which order, and what stays then. */
public final class CompileTest {
    public static void main(String[] args) {
        Due due = new Due("CompileTest");
        compiles(due);
        looksInOrder(due);
        startsAnew(due);
        keepsTheOldCircuit(due);
        due.end();
    }

    private static void compiles(Due due) {
        signals(due, "", 0);
        signals(due, "   ", 0);
        signals(due, "Ia:U1;", 1);
        signals(due, " I a : U 4 [ 2 ] ; N b = + ( a [ 0 ] , 12 ) ; ? b { } : { } ", 3);
        signals(due, "Ia:{x:U1,y~:{z:U2}[2],x:U3}[2];Wb:U1;b<=1;a[0].y[0].z<=1;a[1].y<=a[0].y;"
                + "a[0].y[1].z<=0;", 9);
        signals(due, "Ia:U1[4][3][2];", 24);
        signals(due, "Ia:U1[1][1][1][1][1][1][1][1][1][1];", 1);
        signals(due, "Na=00016;", 1);
        signals(due, "Na=0;Nb=a;Nc=T(b,15,15);", 3);
    }

    private static void signals(Due due, String text, int want) {
        LowForge forge = new LowForge();
        Due.write(forge, text);
        due.same(text + ": compile", forge.compile(), want);
        due.same(text + ": where", forge.where(), -2);
        due.same(text + ": again", forge.compile(), want);
        due.same(text + ": the text stays", forge.count(0), text.length());
    }

    private static void looksInOrder(Due due) {
        String unresolved = "Wa:U;";
        String uninitialised = "Wb:U1;";
        String loop = "Wc:U1;c<=c;";
        String typeError = "d<=1;";
        due.fault(unresolved + uninitialised + loop + typeError + ";", 27);
        due.typeError(unresolved + uninitialised + loop + typeError, 22);
        due.unresolved(unresolved + uninitialised + loop);
        due.uninitialised(loop + uninitialised, 1);
        due.loop(loop, 0);
    }

    private static void startsAnew(Due due) {
        LowForge forge = due.compiled("Ia:U4;Rb:U4;b<=a;");
        forge.set(0, 5);
        forge.clock(2);
        due.same("before", forge.value(1), 5);
        due.same("compile", forge.compile(), 2);
        due.same("inputs are 0", forge.value(0), 0);
        due.same("registers are 0", forge.value(1), 0);
        due.same("no activity", forge.activity(0), 0.0);
        due.same("clocks", forge.clock(1), 1);
        due.same("before the first clock they were 0", forge.activity(0), 0.0);
        for (int i = 0; i < 4; i++) {
            forge.set(0, 7);
            forge.clock(2);
            forge.compile();
            due.same("inputs are 0", forge.value(0), 0);
            due.same("registers are 0", forge.value(1), 0);
            due.same("clocks", forge.clock(1), 1);
            due.same("0 as before the first clock", forge.activity(0), 0.0);
            due.same("nothing of it is left", forge.activity(1), 0.0);
        }
    }

    private static void keepsTheOldCircuit(Due due) {
        LowForge forge = due.compiled("Ia:U4;Rb:U4;b<=a;");
        forge.set(0, 5);
        forge.clock(2);
        String[] others = {"Ia", "a<=1;", "Wa:U;", "Wa:U1;", "Wa:U1;a<=a;"};
        for (String text : others) {
            forge.clear();
            Due.write(forge, text);
            try {
                forge.compile();
            } catch (RuntimeException e) {
                due.same(text + ": signals", forge.count(1), 2);
            }
            due.same(text + ": connections", forge.count(4), 1);
            due.same(text + ": value", forge.value(1), 5);
            due.same(text + ": depends", forge.depends(1), 1);
            due.same(text + ": activity", forge.activity(1), 0.5);
        }
        due.same("and runs on", forge.clock(1), 3);
    }
}

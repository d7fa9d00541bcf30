/** Promise 12: counts of the text and of the circuit. */
public final class CountTest {
    public static void main(String[] args) {
        Due due = new Due("CountTest");
        String text = "Ia:{x:U1,y~:U2};Ob:{x:U3,y~:U4};Wc:U[2];Rd:U2[2];Ne=9;"
                + "b<=a;c<=d;?e{c[0]<=7;d[1]<=1;}:{?1{c[0]<=1;}}";
        LowForge forge = due.compiled(text);
        counts(due, forge, text.length(), 9, 6, 2, 7, 1 + 2 + 3 + 4 + 3 + 2 + 2 + 2 + 4);
        forge.clear();
        counts(due, forge, 0, 9, 6, 2, 7, 23);
        forge.compile();
        counts(due, forge, 0, 0, 0, 0, 0, 0);
        Due.write(forge, "Ia:U1[4][3][2];");
        forge.compile();
        counts(due, forge, 15, 24, 0, 0, 0, 24);
        forge.text('x');
        counts(due, forge, 16, 24, 0, 0, 0, 24);
        counts(due, due.compiled("Wa:U1;a<=1;a<=0;a<=1;"), 21, 1, 1, 0, 3, 1);
        counts(due, due.compiled("Ra:U3;Rb:U2;"), 12, 2, 2, 2, 0, 5);
        for (int what : new int[] {-1, 6, Integer.MIN_VALUE, Integer.MAX_VALUE}) {
            due.thrown("count(" + what + ")", IllegalArgumentException.class,
                    () -> forge.count(what));
        }
        due.end();
    }

    private static void counts(Due due, LowForge forge, int... want) {
        for (int what = 0; what < want.length; what++) {
            due.same("count(" + what + ")", forge.count(what), want[what]);
        }
    }
}

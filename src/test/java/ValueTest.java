/** Promise 9: values. */
public final class ValueTest {
    public static void main(String[] args) {
        Due due = new Due("ValueTest");
        operations(due);
        sinks(due);
        choices(due);
        aggregates(due);
        wrongInputs(due);
        due.end();
    }

    private static void operations(Due due) {
        expr(due, "a", 13);
        expr(due, "65535", 65535);
        expr(due, "+(a,b)", 19);
        expr(due, "+(15,a)", 28);
        expr(due, "-(a,b)", 7);
        expr(due, "-(b,a)", 9);
        expr(due, "-(0,1)", 1);
        expr(due, "-(0,a)", 3);
        expr(due, "-(b,9)", 13);
        expr(due, "&(a,b)", 4);
        expr(due, "|(a,b)", 15);
        expr(due, "^(a,b)", 11);
        expr(due, "^(a,31)", 18);
        expr(due, "=(a,13)", 1);
        expr(due, "=(a,b)", 0);
        expr(due, "<(a,b)", 0);
        expr(due, "<(b,a)", 1);
        expr(due, "<(a,a)", 0);
        expr(due, "#(a,b)", 110);
        expr(due, "#(b,a)", 109);
        expr(due, "#(a,#(0,1))", 53);
        expr(due, "!(a)", 2);
        expr(due, "!(b)", 1);
        expr(due, "!(0)", 1);
        expr(due, "M(a,b,1)", 6);
        expr(due, "M(0,b,1)", 1);
        expr(due, "M(2,b,1)", 6);
        expr(due, "T(a,3,0)", 13);
        expr(due, "T(a,2,0)", 5);
        expr(due, "T(a,3,2)", 3);
        expr(due, "T(a,1,1)", 0);
        expr(due, "T(a,15,3)", 1);
        expr(due, "T(a,15,4)", 0);
        expr(due, "!(T(a,15,4))", 4095);
        expr(due, "+(M(<(b,a),!(b),b),T(#(a,b),5,1))", 24);
    }

    private static void expr(Due due, String expr, int want) {
        LowForge forge = due.compiled("Ia:U4;Ib:U3;Nc=" + expr + ";");
        forge.set(0, 13);
        forge.set(1, 6);
        due.same(expr, forge.value(2), want);
    }

    private static void sinks(Due due) {
        LowForge forge = due.compiled("Ia:U4;Ob:U2;Wc:U8;Wd:U2;b<=a;c<=a;d<=+(3,2);");
        forge.set(0, 14);
        due.same("the lowest bits", forge.value(1), 2);
        due.same("all of them", forge.value(2), 14);
        due.same("of a sum", forge.value(3), 1);
        forge = due.compiled("Ia:U4;Wb:U4;b<=1;Nc=b;b<=a;");
        forge.set(0, 9);
        due.same("what is connected last counts before it, too", forge.value(2), 9);
    }

    private static void choices(Due due) {
        LowForge forge = due.compiled("Ia:U2;Ib:U2;Oc:U4;?a{?b{c<=1;}:{c<=2;}}:{c<=3;?b{c<=4;}}"
                + "?=(a,2){c<=9;}");
        int[] want = {3, 4, 4, 2, 1, 1, 9, 9, 9, 2, 1, 1};
        int[] a = {0, 0, 0, 1, 1, 1, 2, 2, 2, 3, 3, 3};
        for (int i = 0; i < want.length; i++) {
            forge.set(0, a[i]);
            forge.set(1, i % 3);
            due.same("a " + a[i] + " b " + i % 3, forge.value(2), want[i]);
        }
        forge = due.compiled("Ia:U1;Wb:U3;b<=1;?a{b<=2;}:{}b<=3;?a{}:{b<=4;}");
        due.same("the second steps alone", forge.value(1), 4);
        forge.set(0, 1);
        due.same("else what it was before", forge.value(1), 3);
        forge = due.compiled("Ia:U1;Ob:U2;b<=a;?0{b<=3;}");
        due.same("0 is not taken", forge.value(1), 0);
    }

    private static void aggregates(Due due) {
        LowForge forge = due.compiled("Ia:{x:U3,y~:U2}[2];Wp:{x:U3,y~:U2}[2];Oq:{x:U,y~:U4}[2];"
                + "p<=a;q<=p;p[0].y<=1;");
        forge.set(0, 6);
        forge.set(2, 3);
        forge.set(11, 7);
        due.same("forward", forge.value(8), 6);
        due.same("forward, the second place", forge.value(10), 3);
        due.same("back, overridden", forge.value(1), 1);
        due.same("back, two bits of it", forge.value(3), 3);
        forge = due.compiled("Wa:U2[2][3];Wb:U4[2][3];a<=b;b[0]<=b[1];b[1]<=b[2];b[2][0]<=3;"
                + "b[2][1]<=5;");
        due.same("a[0][0]", forge.value(0), 3);
        due.same("a[2][1] has two bits", forge.value(5), 1);
        due.same("b[0][1]", forge.value(7), 5);
    }

    private static void wrongInputs(Due due) {
        LowForge forge = due.compiled("Ia:U1;Nb=1;");
        due.same("the last one", forge.value(1), 1);
        for (int k : new int[] {-1, 2, 24, Integer.MIN_VALUE, Integer.MAX_VALUE}) {
            due.thrown("value(" + k + ")", IndexOutOfBoundsException.class, () -> forge.value(k));
        }
    }
}

/** Promise 6: kinds, widths, sinks and names of ground signals. */
public final class SignalTest {
    public static void main(String[] args) {
        Due due = new Due("SignalTest");
        kindsAndNames(due);
        orderOfAggregates(due);
        placesOfReferences(due);
        widthsOfExprs(due);
        widthsFound(due);
        wrongInputs(due);
        due.end();
    }

    private static void kindsAndNames(Due due) {
        LowForge forge = due.compiled("Ia:{x:U1,y~:U2};Oz:{x:U3,y~:U4};Wb:U5;Rc:U6;Nd=77;b<=1;"
                + "z.x<=1;a.y<=1;");
        rows(due, forge, 0, 0, 0, 1, 1, 2, 3, 4);
        rows(due, forge, 1, 1, 2, 3, 4, 5, 6, 7);
        rows(due, forge, 2, 0, 1, 1, 0, 1, 1, 0);
        rows(due, forge, 3, 0, 0, 25, 25, 1, 2, 3);
    }

    private static void orderOfAggregates(Due due) {
        LowForge forge = due.compiled("Ia:{x:U1,y:{x~:U2,y~:U3[2]}[2],z~:{v:U4,w~:U5}};"
                + "a.y[0].x<=0;a.y[0].y[0]<=0;a.y[0].y[1]<=0;a.y[1].x<=0;a.y[1].y[0]<=0;"
                + "a.y[1].y[1]<=0;a.z.v<=0;");
        rows(due, forge, 1, 1, 2, 3, 3, 2, 3, 3, 4, 5);
        rows(due, forge, 2, 0, 1, 1, 1, 1, 1, 1, 1, 0);
        forge = due.compiled("Oa:{x~:{y~:U1,z:U2}}[2];a[0].x.y<=0;a[1].x.y<=0;");
        rows(due, forge, 1, 1, 2, 1, 2);
        rows(due, forge, 2, 1, 0, 1, 0);
    }

    private static void placesOfReferences(Due due) {
        LowForge forge = due.compiled("Ia:{x:U1[2][3],y:U1,y:U1}[2];Nb=0;"
                + "Nc=a[1].x[2][1];Nd=a[0].x[1][0];Ne=a[1].y;");
        due.same("a[1].x[2][1]", forge.depends(17), 1 << 13);
        due.same("a[0].x[1][0]", forge.depends(18), 1 << 2);
        due.same("the first y of a[1]", forge.depends(19), 1 << 14);
    }

    private static void widthsOfExprs(Due due) {
        String in = "Ia:U3;Ib:U5;Nc=";
        int[] wide = {3, 5, 1, 1, 2, 16, 6, 4, 5, 5, 3, 5, 5, 1, 1, 8, 8, 3, 5, 4, 1, 16};
        String[] exprs = {"a", "b", "0", "1", "2", "65535", "+(a,b)", "+(a,a)", "-(a,b)", "&(b,a)",
            "|(a,a)", "^(a,b)", "M(1,b,a)", "=(a,b)", "<(a,b)", "#(a,b)", "#(b,a)", "!(a)",
            "M(a,b,1)", "T(b,4,1)", "T(a,9,9)", "T(a,15,0)"};
        for (int i = 0; i < exprs.length; i++) {
            due.same(exprs[i], due.compiled(in + exprs[i] + ";").signal(2, 1), wide[i]);
        }
        due.same("M without its first", due.compiled("Ia:U9;Nb=M(a,1,2);").signal(1, 1), 2);
    }

    private static void widthsFound(Due due) {
        LowForge forge = due.compiled("Ia:U3;Wb:U;Wc:U;Wd:U2;c<=b;b<=a;d<=a;");
        rows(due, forge, 1, 3, 3, 3, 2);
        forge = due.compiled("Ia:U3;Wb:U;Wc:U;Wd:U;d<=c;c<=b;b<=a;b<=1;");
        rows(due, forge, 1, 3, 3, 3, 3);
        forge = due.compiled("Ia:U3;Wb:U;Nc=b;Wd:U;Ne=1;d<=c;b<=a;b<=1;");
        rows(due, forge, 1, 3, 3, 3, 3, 1);
        forge = due.compiled("Ia:U1[2];Wb:U[2];Wc:U[2];c<=b;b<=a;c[0]<=7;c[1]<=0;");
        rows(due, forge, 1, 1, 1, 1, 1, 3, 1);
        forge = due.compiled("Ia:U1;Wb:U;b<=9;?a{b<=64;b<=3;}:{?a{b<=1;}}b<=0;");
        rows(due, forge, 1, 1, 7);
        forge = due.compiled("Ia:U1;Wb:U;Nc=+(b,1);b<=#(a,a);");
        rows(due, forge, 1, 1, 2, 3);
        forge = due.compiled("Ra:U;Rb:U;a<=b;b<=T(+(a,1),3,0);");
        rows(due, forge, 1, 4, 4);
        forge = due.compiled("Ra:U;a<=-(a,5);");
        rows(due, forge, 1, 3);
        forge = due.compiled("Ia:{x:U3,y~:U};Wb:{x:U,y~:U4};b<=a;b.y<=1;");
        rows(due, forge, 1, 3, 4, 3, 4);
    }

    private static void wrongInputs(Due due) {
        LowForge forge = due.compiled("Ia:U3;Nb=a;");
        for (int what : new int[] {-1, 4, Integer.MIN_VALUE, Integer.MAX_VALUE}) {
            due.thrown("what", IllegalArgumentException.class, () -> forge.signal(0, what));
            due.thrown("both", IllegalArgumentException.class, () -> forge.signal(9, what));
        }
        for (int k : new int[] {-1, 2, 24, Integer.MIN_VALUE, Integer.MAX_VALUE}) {
            due.thrown("k", IndexOutOfBoundsException.class, () -> forge.signal(k, 3));
        }
    }

    private static void rows(Due due, LowForge forge, int what, int... want) {
        due.same("signals", forge.count(1), want.length);
        for (int k = 0; k < want.length; k++) {
            due.same("signal(" + k + ", " + what + ")", forge.signal(k, what), want[k]);
        }
    }
}

/** Promise 7: on which ground signals one depends. */
public final class DependsTest {
    public static void main(String[] args) {
        Due due = new Due("DependsTest");
        needs(due, "Ia:U1;Ob:U1;b<=a;", 0, 1);
        needs(due, "Ia:{x:U1,y~:U1};Ob:{x:U1,y~:U1};b<=a;", 0, 8, 1, 0);
        needs(due, "Ia:U4;Ib:U4;Nc=M(+(a,1),T(b,0,0),!(a));Nd=c;Ne=5;", 0, 0, 3, 4, 0);
        needs(due, "Ia:U4;Ib:U4;Nc=-(#(a,2),M(1,2,b));", 0, 0, 3);
        choices(due);
        registers(due);
        aggregates(due);
        wrongInputs(due);
        due.end();
    }

    private static void choices(Due due) {
        String in = "Ia:U1;Ib:U1;Ic:U1;Wd:U1;";
        needs(due, in + "?a{d<=b;}:{d<=c;}", 0, 0, 0, 7);
        needs(due, in + "d<=b;?a{d<=1;}", 0, 0, 0, 3);
        needs(due, in + "d<=b;?a{d<=1;}:{d<=0;}", 0, 0, 0, 1);
        needs(due, in + "d<=b;?a{}:{d<=1;}", 0, 0, 0, 3);
        needs(due, in + "d<=0;?a{?b{d<=c;}}", 0, 0, 0, 7);
        needs(due, in + "d<=0;?a{?b{d<=c;}d<=1;}", 0, 0, 0, 1);
        needs(due, in + "?a{d<=b;}d<=c;", 0, 0, 0, 4);
        needs(due, in + "d<=1;?a{?b{}}", 0, 0, 0, 0);
        needs(due, in + "d<=1;?a{d<=1;}:{d<=1;}", 0, 0, 0, 1);
        needs(due, in + "?a{?b{d<=1;}:{d<=0;}}:{d<=c;}", 0, 0, 0, 7);
        needs(due, in + "?a{d<=1;}:{?b{d<=1;}:{d<=0;}}", 0, 0, 0, 3);
        needs(due, "Wa:U1;Ib:U1;a<=1;?b{}", 0, 0);
        needs(due, "Wa:U1;Ib:U1;a<=1;?b{a<=0;}", 2, 0);
        needs(due, "Wa:U1;Wb:U1;Ic:U1;Id:U1;a<=0;b<=0;?c{a<=1;?d{b<=1;}}", 4, 12, 0, 0);
        needs(due, "Wa:U1[2];Ib:U1[2];Ic:U1;a<=b;?c{a<=b;}", 20, 24, 0, 0, 0);
    }

    private static void registers(Due due) {
        needs(due, "Ra:U1;", 1);
        needs(due, "Ia:U1;Rb:U1;b<=a;", 0, 1);
        needs(due, "Ia:U1;Rb:U1;?a{b<=1;}", 0, 3);
        needs(due, "Ia:U1;Rb:U1;?a{b<=1;}:{b<=0;}", 0, 1);
        needs(due, "Ia:U1;Rb:U1;?a{?a{b<=1;}}:{b<=0;}", 0, 3);
        needs(due, "Ia:U1;Rb:U1;?a{}:{b<=a;}b<=0;", 0, 0);
    }

    private static void aggregates(Due due) {
        String in = "Wa:{x:U1,y~:{z:U1,v~:U1}};Wb:{x:U1,y~:{z:U1,v~:U1}};";
        needs(due, in + "a<=b;b.x<=1;b.y.v<=1;a.y.z<=1;", 8, 0, 32, 0, 2, 0);
        needs(due, in + "a.y<=b.y;b.y.z<=1;a.y.v<=1;a.x<=1;b.x<=1;b.y.v<=a.y.v;",
                0, 16, 0, 0, 0, 4);
        needs(due, "Wa:U1[2][2];a[0]<=a[1];a[1][0]<=1;a[1][1]<=a[1][0];", 4, 8, 0, 4);
        needs(due, "Ra:{x:U1,y~:U1};a<=a;", 1, 2);
    }

    private static void wrongInputs(Due due) {
        LowForge forge = due.compiled("Ia:U1;Ob:U1;b<=a;");
        for (int k : new int[] {-1, 2, 24, Integer.MIN_VALUE, Integer.MAX_VALUE}) {
            due.thrown("depends(" + k + ")", IndexOutOfBoundsException.class,
                    () -> forge.depends(k));
        }
        LowForge full = due.compiled("Ia:U1[4][3][2];");
        due.same("the last of 24", full.depends(23), 0);
        due.thrown("none behind it", IndexOutOfBoundsException.class, () -> full.depends(24));
    }

    private static void needs(Due due, String text, int... want) {
        LowForge forge = due.compiled(text);
        due.same(text + ": signals", forge.count(1), want.length);
        for (int k = 0; k < want.length && k < forge.count(1); k++) {
            due.same(text + ": depends(" + k + ")", forge.depends(k), want[k]);
        }
    }
}

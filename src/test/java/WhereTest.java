/** Promise 5: the place of a fault or type error, the least sink or signal, and -1 and -2. */
public final class WhereTest {
    public static void main(String[] args) {
        Due due = new Due("WhereTest");
        faultsOfTokens(due);
        faultsOfItems(due);
        faultsOfNumbers(due);
        faultsOfDepth(due);
        typeErrorsOfNames(due);
        typeErrorsOfConnections(due);
        unresolved(due);
        uninitialised(due);
        loops(due);
        ofTheLatest(due);
        due.end();
    }

    private static void faultsOfTokens(Due due) {
        due.fault("@", 0);
        due.fault("  @", 2);
        due.fault("Ia:U1;  ~", 8);
        due.fault("IA:U1;", 1);
        due.fault("Iab:U1;", 2);
        due.fault("Na=70000;", 3);
        due.fault("Na=65536;", 3);
        due.fault("Na=99999", 3);
        due.fault("Na=000001;", 3);
        due.fault("Na=1 2;", 5);
        due.fault("Na=+(1,123456);", 7);
        due.fault("Wa:U2;a<2;", 7);
        due.fault("Wa:U2;a< =2;", 7);
        due.fault("Wa:U2;a<", 7);
        due.fault("Wa:U2;a", 7);
        due.fault("Na=<=(1,2);", 3);
        due.fault("Na=< =(1,2);", 5);
        due.fault("Na=<", 4);
        due.fault("Na<=1;", 2);
        due.fault("Wa:U1;a<==;", 10);
        due.fault("Wa:U1;?<=(1,a){}", 7);
    }

    private static void faultsOfItems(Due due) {
        due.fault("I", 1);
        due.fault("I  ", 3);
        due.fault("Ia:U1", 5);
        due.fault("Ia U1;", 3);
        due.fault("Ia:u;", 3);
        due.fault("Ia:{};", 4);
        due.fault("Ia:{x};", 5);
        due.fault("Ia:{x~~:U};", 6);
        due.fault("Ia:{x:U,};", 8);
        due.fault("Ia:{x:U;", 7);
        due.fault("Ia:U1[];", 6);
        due.fault("Ia:U1[2;", 7);
        due.fault("Na=;", 3);
        due.fault("Na=+(1);", 6);
        due.fault("Na=+1,2);", 4);
        due.fault("Na=!(1,2);", 6);
        due.fault("Na=M(1,2);", 8);
        due.fault("Na=T(1,a,0);", 7);
        due.fault("Na=T(1,2);", 8);
        due.fault("Na=(1);", 3);
        due.fault("Na=1", 4);
        due.fault("1<=a;", 0);
        due.fault("a.<=1;", 2);
        due.fault("a.1<=1;", 2);
        due.fault("a[b]<=1;", 2);
        due.fault("a[1<=1;", 3);
        due.fault("?1;", 2);
        due.fault("?{}", 1);
        due.fault("?1{", 3);
        due.fault("?1{}:", 5);
        due.fault("?1{}:?1{}", 5);
        due.fault("?1{}:{}:{}", 7);
        due.fault("?1{?1{}:{}:{}}", 10);
        due.fault("?1{Wa:U1;}", 3);
        due.fault("?1{Na=1;}", 3);
        due.fault("?1{}}", 4);
        due.fault(":{}", 0);
        due.fault(";", 0);
    }

    private static void faultsOfNumbers(Due due) {
        due.fault("Ia:U0;", 4);
        due.fault("Ia:U17;", 4);
        due.fault("Ia: U  17", 7);
        due.fault("Ia:U1[0];", 6);
        due.fault("Ia:U1[5];", 6);
        due.fault("Ia:U1[4][5];", 9);
        due.fault("Na=T(1,16,1);", 7);
        due.fault("Na=T(1,15,16);", 10);
        due.fault("Na=T(1,3,4);", 9);
        due.same("T with equal bits", due.compiled("Na=T(1,3,3);").count(1), 1);
        due.same("T with all bits", due.compiled("Na=T(1,15,0);").count(5), 16);
        due.same("U of 16 and of 1", due.compiled("Ia:U16;Ib:U1;").count(5), 17);
        due.same("vectors of 1 and 4", due.compiled("Ia:U1[1][4];").count(1), 4);
        due.same("the greatest number", due.compiled("Na=65535;").value(0), 65535);
    }

    private static void faultsOfDepth(Due due) {
        due.fault("Ia:{x:{y:{z:U}}};", 12);
        due.fault("Ia:{x:{y:{z: {w:U}}}};", 13);
        due.fault("Ia:{x:{y:{z:", 12);
        due.same("three types deep", due.compiled("Ia:{x:{y:U1[2]}[2]}[2];").count(1), 8);
        due.fault("Na=!(!(!(!(!(!(1))))));", 15);
        due.fault("Na=M(0,1,+(1,+(1,+(1,+(1, +( 1,1)))))));", 29);
        due.same("six exprs deep", due.compiled("Na=!(!(!(!(!(1)))));").value(0), 0);
        due.fault("?1{?1{?1{?1{}}}}", 9);
        due.fault("?1{}:{?1{}:{?1{}:{ ?1{}}}}", 19);
        due.same("three ? deep", due.compiled("?1{?1{?1{}?1{}}}?1{}").count(1), 0);
        due.fault("Wa:U1;a[0].b[1].c[2].d[0]<=1;", 22);
        due.typeError("Wa:U1;a[0].b[1].c[2].d<=1;", 6);
        due.fault("Na=b.c.d.e.f.g.h[0];", 16);
        due.typeError("Na=b.c.d.e.f.g.h;", 0);
    }

    private static void typeErrorsOfNames(Due due) {
        due.typeError("Ia:U1;Ia:U1;", 6);
        due.typeError("Na=1;Na=2;", 5);
        due.typeError("Na=1; Ra:U1;", 6);
        due.typeError("Na=a;", 0);
        due.typeError("Na=b;Nb=1;", 0);
        due.typeError("a<=1;Wa:U1;", 0);
        due.typeError("Wa:U1;a<=b;", 6);
        due.typeError("Wa:U1;a<=+(1,M(a,1,b));", 6);
        due.typeError("Ia:U1[4][4];Ib:U1[4][2];Nc=1;", 24);
        due.typeError("Ia:U1[4][4];Ib:U1[3][3];", 12);
        due.typeError("Ia:U1[4][4][4][4][4][4][4][4][4][4][4][4][4][4][4][4][4][4];", 0);
        due.typeError("Ia:{x:U1};Nb=a.y;", 10);
        due.typeError("Ia:U1;Nb=a.x;", 6);
        due.typeError("Ia:U1;Nb=a[0];", 6);
        due.typeError("Ia:{x:U1};Nb=a[0];", 10);
        due.typeError("Ia:U1[2];Nb=a[2];", 9);
        due.typeError("Ia:U1[2];Nb=a.x;", 9);
        due.typeError("Ia:{x:U1,x:U1[2]};Nb=a.x[1];", 18);
        due.typeError("Ia:U1[2];Nb=a;", 9);
        due.typeError("Ia:U1[2];Nb=!(a);", 9);
        due.typeError("Ia:U1[2];?a{}", 9);
        due.typeError("Ia:U1;?b{a<=1;}", 6);
        due.typeError("Ia:U1;?a{?a{}a<=1;}", 13);
        due.typeError("Ia:U1;?a{}:{?b{}}", 12);
    }

    private static void typeErrorsOfConnections(Due due) {
        due.typeError("Ia:U1;a<=1;", 6);
        due.typeError("Na=1;a<=1;", 5);
        due.typeError("Oa:{x~:U1};a.x<=1;", 11);
        due.typeError("Wa:U1[1];a<=1;", 9);
        due.typeError("Wa:U1[1];Wb:U1;a<=b;", 15);
        due.typeError("Wa:U1[1];Wb:U1;b<=a;", 15);
        due.typeError("Wa:U1[2];Wb:U1[2];a<=M(1,a,b);", 18);
        due.typeError("Wa:U1[2];Wb:U1[3];a<=b;", 18);
        due.typeError("Wa:U1[2][3];Wb:U1[3][2];a<=b;", 24);
        due.typeError("Wa:U1[2];Wb:U1[2][1];a<=b;", 21);
        due.typeError("Wa:{x:U1};Wb:U1[1];a<=b;", 19);
        due.typeError("Wa:{x:U1};Wb:{y:U1};a<=b;", 20);
        due.typeError("Wa:{x:U1};Wb:{x~:U1};a<=b;", 21);
        due.typeError("Wa:{x:U1,y:U1};Wb:{y:U1,x:U1};a<=b;", 30);
        due.typeError("Wa:{x:U1};Wb:{x:U1,y:U1};a<=b;", 25);
        due.typeError("Wa:{x:U1,y:U1};Wb:{x:U1};a<=b;", 25);
        due.typeError("Wa:{x:{y:U1}};Wb:{x:{z:U1}};a<=b;", 28);
        due.typeError("Ia:{x:U1,y~:U1};Wb:{x:U1,y~:U1};a<=b;", 32);
        due.typeError("Wa:{x:U1,y~:U1};Ob:{x:U1,y~:U1};a<=b;", 32);
        due.typeError("Na=1;Wb:U1;a<=b;", 11);
    }

    private static void unresolved(Due due) {
        due.unresolved("Ia:U;");
        due.unresolved("Wa:U;");
        due.unresolved("Oa:{x~:U};");
        due.unresolved("Wa:U;Wb:U;a<=b;b<=a;");
        due.unresolved("Ra:U;a<=+(a,1);");
        due.unresolved("Ra:U;a<=#(a,1);");
        due.unresolved("Ia:U16;Nb=+(a,1);");
        due.unresolved("Ia:U16;?+(a,1){}");
        due.unresolved("Ia:U16;Nb=T(#(a,1),1,0);");
        due.unresolved("Ia:U9;Ib:U8;Oo:U1;o<==(#(a,b),1);");
        due.unresolved("Ra:U;Rb:U;?1{a<=b;}");
        due.same("16 is no more than 16", due.compiled("Ia:U15;Nb=+(a,1);").count(5), 31);
    }

    private static void uninitialised(Due due) {
        due.uninitialised("Wa:U1;", 0);
        due.uninitialised("Oa:U1;", 0);
        due.uninitialised("Ia:{x:U1,y~:U1};", 1);
        due.uninitialised("Oa:{x~:U1,y:U1};", 1);
        due.uninitialised("Ia:U1;Wb:U1;?a{b<=1;}", 1);
        due.uninitialised("Ia:U1;Wb:U1;?a{}:{b<=1;}", 1);
        due.uninitialised("Wb:U1;?1{b<=1;}", 0);
        due.uninitialised("Ia:U1;Wb:U2;?a{b<=1;}?a{}:{b<=2;}", 1);
        due.uninitialised("Ia:U1;Wb:U1;Wc:U1;c<=1;?a{?a{b<=1;}}:{b<=1;}", 1);
        due.uninitialised("Ra:U1;Wb:U1[3];b[1]<=1;", 1);
        due.same("of R never", due.compiled("Ra:U1;").depends(0), 1);
        due.same("what goes before", due.compiled("Ia:U1;Wb:U1;b<=0;?a{b<=1;}").count(1), 2);
        due.same("both paths", due.compiled("Ia:U1;Wb:U1;?a{b<=1;}:{b<=0;}").count(1), 2);
        due.same("what comes behind", due.compiled("Ia:U1;Wb:U1;?a{b<=1;}b<=0;").count(1), 2);
    }

    private static void loops(Due due) {
        due.loop("Wa:U1;a<=a;", 0);
        due.loop("Ia:U1;Wb:U1;Wc:U1;b<=c;c<=!(b);", 1);
        due.loop("Wa:U1;Wb:U1;Nc=b;a<=c;b<=+(c,1);", 1);
        due.loop("Ia:U2;Ob:U2;b<=0;?=(b,a){b<=1;}", 1);
        due.loop("Wa:U1;a<=T(a,15,15);", 0);
        due.loop("Wa:U1[2];a[0]<=a[1];a[1]<=a[0];", 0);
        due.loop("Ia:{x~:U1};Wb:U1;b<=a.x;a.x<=b;", 0);
        due.same("through R is none", due.compiled("Ra:U1;Wb:U1;b<=a;a<=b;").count(1), 2);
        due.same("of R is none", due.compiled("Ra:U1;a<=!(a);").count(1), 1);
        due.same("overridden", due.compiled("Wa:U1;a<=a;a<=1;").value(0), 1);
        due.same("between places is none", due.compiled("Wa:U1[2];a[0]<=a[1];a[1]<=1;").value(0), 1);
    }

    private static void ofTheLatest(Due due) {
        LowForge forge = new LowForge();
        Due.write(forge, "Ia:U1");
        due.thrown("a fault", IllegalArgumentException.class, forge::compile);
        due.same("its place", forge.where(), 5);
        forge.text(';');
        due.same("it stays till the next compile", forge.where(), 5);
        forge.compile();
        due.same("not thrown", forge.where(), -2);
        Due.write(forge, "a<=1;");
        due.thrown("a type error", UnsupportedOperationException.class, forge::compile);
        due.same("its place", forge.where(), 6);
    }
}

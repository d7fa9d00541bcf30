/** The bounds of WIDTHS, a test for each sentence that names one. */
public final class BoundsOfWidthsTest {
    private static final String[] EQUALS = {"-", "&", "|", "^"};

    public static void main(String[] args) {
        Due due = new Due("BoundsOfWidthsTest");
        oneTo16(due);
        bitsOfNumbers(due);
        oneMoreThanTheGreater(due);
        theGreaterOne(due);
        theGreaterOfTheLastTwo(due);
        oneBit(due);
        bothTogether(due);
        theSame(due);
        highLessLowAndOne(due);
        exprsWiderThan16(due);
        partsWiderThan16(due);
        uWiderThan16(due);
        uStays0(due);
        uWithOthersOf0Alone(due);
        greatestOfAll(due);
        noMoreThanThat(due);
        foundFrom0On(due);
        foundRoundAll24(due);
        eachSinkMayBeUAlone(due);
        saidStaysSaid(due);
        due.end();
    }

    private static void width(Due due, String declared, String expr, int want) {
        String text = declared + "Nz=" + expr + ";";
        LowForge forge = due.compiled(text);
        due.same(text, forge.signal(forge.count(1) - 1, 1), want);
    }

    /** "WIDTHS are 1 to 16: those said; of a node that of its EXPR". */
    private static void oneTo16(Due due) {
        for (int width = 1; width <= 16; width++) {
            String item = "a:U" + width + ";";
            LowForge forge = due.compiled("I" + item + "Rb:{x:U" + width + "}[2];Nc=a;");
            due.same("an input of " + width, forge.signal(0, 1), width);
            due.same("a register", forge.signal(2, 1), width);
            due.same("a node", forge.signal(3, 1), width);
            due.same("all", forge.count(5), 4 * width);
        }
        due.same("the most", due.compiled("Ia:U16[4][3][2];").count(5), 384);
        due.same("the least", due.compiled("Ia:U1;").count(5), 1);
    }

    /** "Of NUMBERS as many bits as they need (1 for 0)". */
    private static void bitsOfNumbers(Due due) {
        width(due, "", "0", 1);
        width(due, "", "00000", 1);
        width(due, "", "1", 1);
        for (int bits = 2; bits <= 16; bits++) {
            width(due, "", "" + (1 << bits - 1), bits);
            width(due, "", "" + ((1 << bits) - 1), bits);
        }
    }

    /** "+ one more than the greater one": up to 16, and not beyond. */
    private static void oneMoreThanTheGreater(Due due) {
        width(due, "", "+(0,0)", 2);
        width(due, "Ia:U3;Ib:U5;", "+(a,b)", 6);
        width(due, "Ia:U3;Ib:U5;", "+(b,a)", 6);
        width(due, "Ia:U15;", "+(a,a)", 16);
        width(due, "Ia:U15;", "+(1,a)", 16);
        due.unresolved("Ia:U16;Nz=+(a,1);");
        due.unresolved("Ia:U16;Nz=+(1,a);");
        due.unresolved("Nz=+(32768,0);");
        width(due, "", "+(32767,0)", 16);
    }

    /** "- & | ^ .. the greater one", 16 at most as their parts are. */
    private static void theGreaterOne(Due due) {
        for (String op : EQUALS) {
            width(due, "Ia:U3;Ib:U5;", op + "(a,b)", 5);
            width(due, "Ia:U3;Ib:U5;", op + "(b,a)", 5);
            width(due, "Ia:U4;", op + "(a,a)", 4);
            width(due, "", op + "(0,0)", 1);
            width(due, "Ia:U16;", op + "(a,1)", 16);
            width(due, "Ia:U16;", op + "(1,a)", 16);
        }
    }

    /** "(of M of the last two)". */
    private static void theGreaterOfTheLastTwo(Due due) {
        width(due, "Ia:U3;Ib:U5;", "M(0,a,b)", 5);
        width(due, "Ia:U3;Ib:U5;", "M(0,b,a)", 5);
        width(due, "Ia:U16;", "M(a,0,1)", 1);
        width(due, "Ia:U16;", "M(0,a,1)", 16);
        width(due, "Ia:U16;", "M(0,1,a)", 16);
    }

    /** "= < 1". */
    private static void oneBit(Due due) {
        for (String op : new String[] {"=", "<"}) {
            width(due, "Ia:U16;", op + "(a,a)", 1);
            width(due, "", op + "(0,0)", 1);
        }
    }

    /** "# both together": up to 16, and not beyond. */
    private static void bothTogether(Due due) {
        width(due, "", "#(0,0)", 2);
        width(due, "Ia:U7;Ib:U8;", "#(a,b)", 15);
        width(due, "Ia:U8;", "#(a,a)", 16);
        width(due, "Ia:U15;", "#(a,0)", 16);
        width(due, "Ia:U15;", "#(0,a)", 16);
        due.unresolved("Ia:U8;Ib:U9;Nz=#(a,b);");
        due.unresolved("Ia:U8;Ib:U9;Nz=#(b,a);");
        due.unresolved("Ia:U16;Nz=#(a,0);");
        due.unresolved("Ia:U16;Nz=#(a,a);");
    }

    /** "! the same". */
    private static void theSame(Due due) {
        width(due, "", "!(0)", 1);
        width(due, "Ia:U16;", "!(a)", 16);
        width(due, "Ia:U5;", "!(!(a))", 5);
    }

    /** "T (e, h, l) h - l + 1", however wide e is. */
    private static void highLessLowAndOne(Due due) {
        width(due, "", "T(0,0,0)", 1);
        width(due, "", "T(0,15,0)", 16);
        width(due, "Ia:U16;", "T(a,15,15)", 1);
        width(due, "Ia:U16;", "T(a,8,7)", 2);
        width(due, "Ia:U1;", "T(a,15,1)", 15);
    }

    /** "or an EXPR .. would be wider than 16", wherever it stands. */
    private static void exprsWiderThan16(Due due) {
        String in = "Ia:U16;Rb:U1;";
        due.unresolved(in + "Nc=+(a,0);");
        due.unresolved(in + "b<=+(a,0);");
        due.unresolved(in + "?+(a,0){}");
        due.unresolved(in + "?1{b<=#(a,0);}");
        due.unresolved(in + "?1{}:{b<=#(a,0);}");
        due.unresolved(in + "b<=#(a,0);b<=1;");
        due.same("16 of each", due.compiled("Ia:U15;Rb:U1;Nc=+(a,0);b<=+(a,0);?+(a,0){b<=#(a,0);}"
                + "?#(0,a){}").count(5), 32);
    }

    /** A part of an EXPR is one, too, though the whole is less. */
    private static void partsWiderThan16(Due due) {
        String in = "Ia:U16;";
        for (String whole : new String[] {"T(+(a,0),0,0)", "=(+(a,0),0)", "<(0,#(a,0))",
            "M(+(a,0),0,0)", "M(0,+(a,0),0)", "M(0,0,+(a,0))", "!(+(a,0))", "=(0,T(#(a,0),1,0))",
            "T(!(+(a,0)),0,0)"}) {
            due.unresolved(in + "Nc=" + whole + ";");
            due.same(whole, due.compiled("Ia:U15;Nc=" + whole + ";").count(1), 2);
        }
    }

    /** "or U would be wider than 16": by a row of U, or by itself. */
    private static void uWiderThan16(Due due) {
        width(due, "Rb:U;Rc:U;b<=65535;c<=b;", "c", 16);
        width(due, "Rb:U;Rc:U;b<=32767;c<=+(b,1);", "c", 16);
        due.unresolved("Rb:U;Rc:U;b<=32768;c<=+(b,1);");
        due.unresolved("Rb:U;b<=+(b,1);");
        due.unresolved("Rb:U;b<=#(b,1);");
        due.unresolved("Rb:U;Rc:U;b<=+(c,1);c<=b;");
        width(due, "Rb:U;Rc:U;b<=T(+(c,1),15,0);c<=T(b,14,0);", "b", 16);
        due.unresolved("Rb:U;Rc:U;b<=T(+(c,1),15,0);c<=b;");
    }

    /** "a U stays 0 (without a CONNECTION ..": each kind, the first, the last, all. */
    private static void uStays0(Due due) {
        due.unresolved("Ia:U;");
        due.unresolved("Oa:U;");
        due.unresolved("Wa:U;");
        due.unresolved("Ra:U;");
        due.unresolved("Oa:{x~:U};");
        due.unresolved("Ia:{x~:U};");
        due.unresolved("Ra:U[4];a[0]<=1;a[1]<=1;a[2]<=1;");
        due.unresolved("Ra:U[4];a[3]<=1;a[1]<=1;a[2]<=1;");
        due.unresolved("Ra:U1[4][4];Rb:U1[4];Rc:U1[3];Rd:U;");
        due.same("of one CONNECTION", due.compiled("Ra:U;a<=0;").signal(0, 1), 1);
        due.unresolved("Ra:U;Nb=a;");
        due.unresolved("Ra:U;Rb:U1;b<=a;");
    }

    /** ".. or with others of 0 alone)". */
    private static void uWithOthersOf0Alone(Due due) {
        due.unresolved("Ra:U;a<=a;");
        due.unresolved("Ra:U;Rb:U;a<=b;");
        due.unresolved("Ra:U;Rb:U;a<=b;b<=a;");
        due.unresolved("Ra:U;Rb:U;a<=!(b);b<=M(1,a,b);");
        due.unresolved("Ra:U;Nb=a;a<=b;");
        due.unresolved("Ra:U;Nb=#(a,a);Nc=!(b);a<=c;");
        due.unresolved("Ra:U;Nb=a;");
        due.unresolved("Ra:U;Rb:U;Rc:U;a<=b;b<=c;c<=a;Rd:U;d<=1;");
        due.same("with another one, too", due.compiled("Ra:U;Rb:U;a<=b;b<=a;a<=1;").count(5), 2);
        due.same("a + is never 0 wide", due.compiled("Ra:U;Rb:U1;a<=+(b,b);").count(5), 3);
    }

    /** "the greatest of what it is CONNECTED with (all, wherever that stands)". */
    private static void greatestOfAll(Due due) {
        width(due, "Rb:U;b<=255;b<=1;", "b", 8);
        width(due, "Rb:U;b<=1;b<=255;", "b", 8);
        width(due, "Rb:U;?1{b<=1;}:{b<=255;}b<=0;", "b", 8);
        width(due, "Rb:U;?0{?0{?0{b<=255;}}}b<=0;", "b", 8);
        width(due, "Ia:{x:U1}[2];Rb:{x:U}[2];b<=a;b[1].x<=7;", "b[1].x", 3);
        width(due, "Ia:{x:U1}[2];Rb:{x:U}[2];b<=a;b[1].x<=7;", "b[0].x", 1);
        due.same("found before and behind",
                due.compiled("Rb:U;Nc=b;b<=1;Nd=b;b<=7;").count(5), 9);
    }

    /** "and no more than that". */
    private static void noMoreThanThat(Due due) {
        width(due, "Ia:U5;Rb:U;b<=a;", "b", 5);
        width(due, "Ia:U5;Rb:U;b<=-(b,a);", "b", 5);
        width(due, "Ia:U5;Rb:U;Rc:U;b<=c;c<=b;c<=a;", "b", 5);
        width(due, "Ia:U5;Rb:U;b<=T(#(a,b),3,0);", "b", 4);
        width(due, "Rb:U;b<=M(b,0,b);", "b", 1);
        width(due, "Ia:U16;Rb:U;b<=<(a,b);", "b", 1);
    }

    /** "found from 0 on": through rows of U, whichever way they stand. */
    private static void foundFrom0On(Due due) {
        due.same("in order", due.compiled("Ia:U9;Rb:U[4];b[0]<=a;b[1]<=b[0];b[2]<=b[1];b[3]<=b[2];")
                .count(5), 45);
        due.same("against it",
                due.compiled("Ia:U9;Rb:U[4];b[3]<=b[2];b[2]<=b[1];b[1]<=b[0];b[0]<=a;")
                .count(5), 45);
        String sums = "Rb:U[4];b[0]<=+(b[1],0);b[1]<=+(b[2],0);b[2]<=+(b[3],0);b[3]<=";
        due.same("1, 2, 3 and 4", due.compiled(sums + "0;").count(5), 10);
        due.same("13 to 16", due.compiled(sums + "8191;").count(5), 13 + 14 + 15 + 16);
        due.unresolved(sums + "8192;");
        due.same("one of two becomes wider", due.compiled("Ra:U[2];Rb:U[2];Rc:U;b[1]<=1;c<=a[0];"
                + "a<=b;b[0]<=31;").count(5), 17);
    }

    /** However long it takes: round all 24 of them, against the order of the STEPS. */
    private static void foundRoundAll24(Due due) {
        String ring = "Ra:U[4][3][2];a[1]<=a[0];a[0][2]<=a[1][1];a[0][1]<=a[1][0];"
                + "a[0][0][3]<=a[1][2][2];a[0][0][2]<=a[1][2][1];a[0][0][1]<=a[1][2][0];";
        due.same("15", due.compiled(ring + "a[0][0][0]<=T(+(a[1][2][3],0),14,0);").count(5),
                24 * 15);
        due.unresolved(ring + "a[0][0][0]<=T(+(a[1][2][3],0),15,0);");
        due.unresolved(ring + "a[0][0][0]<=+(a[1][2][3],0);");
        due.unresolved(ring + "a[0][0][0]<=a[1][2][3];");
        due.same("by one from outside",
                due.compiled(ring + "a[0][0][0]<=^(a[1][2][3],5);").count(5), 24 * 3);
    }

    /** A U alone of whatever is a SINK, of FLIPPED ones too. */
    private static void eachSinkMayBeUAlone(Due due) {
        String type = "{x:U3,y~:U}";
        due.same("of W", due.compiled("Wa:U;a<=7;").signal(0, 1), 3);
        due.same("of O", due.compiled("Oa:U;a<=7;").signal(0, 1), 3);
        due.same("of R", due.compiled("Ra:U;a<=7;").signal(0, 1), 3);
        due.same("of I, FLIPPED", due.compiled("Ia:{x~:U};a.x<=7;").signal(0, 1), 3);
        LowForge forge = due.compiled("Ia:" + type + ";Ob:{x:U,y~:U4};b<=a;");
        due.same("the left one", forge.signal(2, 1), 3);
        due.same("the right one, the other way round", forge.signal(1, 1), 4);
        due.unresolved("Ia:{x:U,y~:U4};Ob:{x:U4,y~:U4};b<=a;");
        due.unresolved("Ia:{x:U4,y~:U4};Ob:{x:U4,y~:U};b<=a;");
    }

    /** "those said" are no others, whatever they are CONNECTED with. */
    private static void saidStaysSaid(Due due) {
        due.same("wider", due.compiled("Ra:U1;a<=65535;").signal(0, 1), 1);
        due.same("less wide", due.compiled("Ra:U16;a<=0;").signal(0, 1), 16);
        due.same("without one", due.compiled("Ra:U7;").signal(0, 1), 7);
    }
}

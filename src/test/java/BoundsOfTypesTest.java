/** The bounds that make a TYPE ERROR, a test for each sentence that names one. */
public final class BoundsOfTypesTest {
    private static final String KINDS = "IOWR";

    public static void main(String[] args) {
        Due due = new Due("BoundsOfTypesTest");
        twentyFourSignals(due);
        twentyFourInOneItem(due);
        aTypeOfVeryMany(due);
        namesDeclaredBefore(due);
        namesNotDeclaredBefore(due);
        placesThatAreThere(due);
        fieldsThatAreThere(due);
        firstFieldOfOneName(due);
        aggregatesInExprs(due);
        groundWithAggregate(due);
        aggregatesOfOtherFields(due);
        aggregatesOfOtherVectors(due);
        widthsMayDiffer(due);
        sinksOfEachKind(due);
        connectsSinksAlone(due);
        connectsTheOtherWayRound(due);
        tildesFromTheseRefsOn(due);
        choicesByTheirExprAlone(due);
        theFirstTypeError(due);
        lastPlacesAreOutermost(due);
        due.end();
    }

    /** "a 25th GROUND SIGNAL", of each kind, behind 22, 23 and 24 others. */
    private static void twentyFourSignals(Due due) {
        String twenty = "Ia:U1[4][4];Ib:U1[4];";
        for (String item : new String[] {"Ie:U1;", "Re:U1;", "Ne=1;"}) {
            due.same("23", due.compiled(twenty + "Ic:U1[2];" + item).count(1), 23);
            due.same("24", due.compiled(twenty + "Ic:U1[3];" + item).count(1), 24);
            due.typeError(twenty + "Ic:U1[4];" + item, twenty.length() + 9);
        }
        due.typeError(twenty + "Ic:U1[4];Oe:U1;e<=1;", twenty.length() + 9);
        due.typeError(twenty + "Ic:U1[4];We:U1;e<=1;", twenty.length() + 9);
        due.typeError(twenty + "Rc:U1[4];c[0]<=1; Rd:U1;", twenty.length() + 18);
        due.same("STEPS behind the 24th", due.compiled(twenty + "Rc:U1[4];c[0]<=1;").count(4), 1);
    }

    /** The ITEM with the 25th one, though its first ones are less. */
    private static void twentyFourInOneItem(Due due) {
        due.same("24", due.compiled("Ra:U1[4][3][2];").count(1), 24);
        due.typeError("Ra:U1[4][4][2];", 0);
        due.same("16, 4 and 4", due.compiled("Ra:U1[4][4];Rb:U1[4];Rc:U1[4];").count(1), 24);
        due.typeError("Ra:U1;Rb:U1[4][3][2];", 6);
        due.typeError("Ra:{x:U1[4][3][2],y:U1};", 0);
        due.typeError("Ra:{x:U1,y:U1[4][3][2]};", 0);
        due.same("fields of vectors", due.compiled("Ra:{x:U1[4],y:U1[4]}[3];").count(1), 24);
        due.typeError("Ra:{x:U1[4],y:U1[4]}[4];", 0);
        due.typeError("Ra:{x:U1[4],y:U1[4],z:U1}[3];", 0);
    }

    private static void aTypeOfVeryMany(Due due) {
        due.typeError("Ia:U1" + "[4]".repeat(64) + ";", 0);
        due.typeError("Ia:{x:{y:U1" + "[4]".repeat(20) + "}" + "[4]".repeat(20) + "}"
                + "[4]".repeat(17) + ";", 0);
        due.same("of one place each", due.compiled("Ia:U1" + "[1]".repeat(64) + ";").count(1), 1);
    }

    /** "a NAME declared before", by each kind of ITEM. */
    private static void namesDeclaredBefore(Due due) {
        String[] items = {"Ia:U1;", "Oa:U1;", "Wa:U1;", "Ra:{x:U1};", "Na=1;"};
        for (String one : items) {
            for (String other : items) {
                due.typeError(one + other, one.length());
            }
        }
        due.typeError("Iz:U1;Ib:U1; Iz:U1;", 13);
        due.same("FIELDS are no such NAMES", due.compiled("Ia:{a:U1,b:U1};Ib:U1;").count(1), 3);
    }

    /** "a REF (also in an EXPR) of a NAME that was not declared before", wherever one stands. */
    private static void namesNotDeclaredBefore(Due due) {
        due.typeError("a<=1;Wa:U1;", 0);
        due.typeError("a<=1;", 0);
        due.typeError("Wa:U1;a<=b;Ib:U1;", 6);
        due.typeError("Wa:U1;a<=!(b);Ib:U1;", 6);
        due.typeError("Na=a;", 0);
        due.typeError("Na=b;Nb=1;", 0);
        due.typeError("?b{}Nb=1;", 0);
        due.typeError("Wa:U1;?1{a<=b;}Nb=1;", 9);
        String[] exprs = {"+(b,1)", "-(1,b)", "&(b,1)", "|(1,b)", "^(b,1)", "=(1,b)", "<(b,1)",
            "#(1,b)", "M(b,1,1)", "M(1,b,1)", "M(1,1,b)", "!(b)", "T(b,1,0)", "b.x", "b[0]"};
        for (String expr : exprs) {
            due.typeError("Na=" + expr + ";", 0);
            due.typeError("Ib:U1[1];Na=1;Nc=" + expr.replace('b', 'd') + ";", 14);
        }
        due.same("right before", due.compiled("Ib:U1;Na=b;").depends(1), 1);
    }

    /** "a FIELD or place that its TYPE does not have": the last place, and one behind it. */
    private static void placesThatAreThere(Due due) {
        for (int places = 1; places <= 4; places++) {
            String in = "Ra:U1[" + places + "];";
            String last = in + "a[" + (places - 1) + "]<=1;";
            due.same(last, due.compiled(last).count(4), 1);
            due.typeError(in + "a[" + places + "]<=1;", 9);
            due.typeError(in + "Nb=a[" + places + "];", 9);
            due.typeError(in + "?a[" + places + "]{}", 9);
        }
        due.typeError("Ra:U1[4];a[65535]<=1;", 9);
        due.typeError("Ra:U1[2][3];a[3][0]<=1;", 12);
        due.typeError("Ra:U1[2][3];a[0][2]<=1;", 12);
        due.same("both last ones", due.compiled("Ra:U1[2][3];a[2][1]<=1;").count(4), 1);
        due.typeError("Ra:U1;a[0]<=1;", 6);
        due.typeError("Ra:U1[1];a[0][0]<=1;", 9);
        due.typeError("Ra:{x:U1};a[0]<=1;", 10);
        due.typeError("Na=1;Nb=a[0];", 5);
    }

    private static void fieldsThatAreThere(Due due) {
        String in = "Ra:{b:U1,d:U1};";
        due.same("the first", due.compiled(in + "a.b<=1;").count(4), 1);
        due.same("the last", due.compiled(in + "a.d<=1;").count(4), 1);
        for (String name : new String[] {"a", "c", "e"}) {
            due.typeError(in + "a." + name + "<=1;", 15);
            due.typeError(in + "Nc=+(1,a." + name + ");", 15);
        }
        due.typeError("Ra:U1;a.a<=1;", 6);
        due.typeError("Ra:{b:U1}[1];a.b<=1;", 13);
        due.typeError("Ra:{b:{c:U1}};a.c<=1;", 14);
        due.typeError("Ra:{b:U1};a.b.b<=1;", 10);
        due.typeError("Na=1;Nb=a.a;", 5);
    }

    /** "(of FIELDS of one NAME the first is meant)". */
    private static void firstFieldOfOneName(Due due) {
        LowForge forge = due.compiled("Ia:{x:U2,y:U1,x:U3,x:U4};Nb=a.x;Nc=a.y;");
        due.same("the first x", forge.depends(4), 1);
        due.same("its WIDTH", forge.signal(4, 1), 2);
        due.same("behind it", forge.depends(5), 2);
        due.typeError("Wa:{x:U1,x:U1[2]};Nb=a.x[1];", 18);
        due.same("the first one has places",
                due.compiled("Ia:{x:U1[2],x:U1};Nb=a.x[1];").depends(3), 2);
        due.typeError("Oa:{x~:U1,x:U1};a.x<=1;", 16);
        due.uninitialised("Oa:{x:U1,x:U1};a.x<=1;", 1);
        due.same("all are CONNECTED by the whole",
                due.compiled("Oa:{x:U1,x:U1};Ib:{x:U1,x:U1};a<=b;").depends(1), 8);
    }

    /** "an EXPR (or one of its parts) that is an aggregate", but for a REF alone behind <=. */
    private static void aggregatesInExprs(Due due) {
        String in = "Ia:U1[1];Ib:{x:U1};Wc:U1[1];Wd:{x:U1};";
        due.same("REFS alone", due.compiled(in + "c<=a;d<=b;").count(4), 2);
        String[] exprs = {"+(a,1)", "-(1,b)", "&(a,1)", "|(1,b)", "^(a,1)", "=(a,a)", "<(1,b)",
            "#(a,1)", "M(a,1,1)", "M(1,b,1)", "M(1,1,a)", "!(b)", "T(a,0,0)", "+(1,!(a))"};
        for (String expr : exprs) {
            due.typeError(in + "Ne=" + expr + ";", in.length());
            due.typeError(in + "c[0]<=" + expr + ";", in.length());
            due.typeError(in + "c<=" + expr + ";", in.length());
            due.typeError(in + "?" + expr + "{}", in.length());
        }
        due.typeError(in + "Ne=a;", in.length());
        due.typeError(in + "Ne=b;", in.length());
        due.typeError(in + "?a{}", in.length());
        due.typeError(in + "?b{}", in.length());
        due.typeError(in + "c<=M(1,a,a);", in.length());
    }

    /** "a <= of an aggregate and a ground one", both ways, and of EXPRS that are no REF. */
    private static void groundWithAggregate(Due due) {
        String in = "Ia:U1[1];Ib:{x:U1};Ic:U1;Wd:U1[1];We:{x:U1};Wf:U1;";
        for (String step : new String[] {"d<=c;", "e<=c;", "f<=a;", "f<=b;", "d<=1;", "e<=1;",
            "d<=!(c);", "e<=+(c,1);", "d<=a[0];", "e<=b.x;", "d[0]<=a;", "e.x<=b;"}) {
            due.typeError(in + step, in.length());
        }
        due.same("ground ones",
                due.compiled(in + "d[0]<=c;e.x<=a[0];f<=b.x;").count(4), 3);
    }

    /** "or of two aggregates not of the same FIELDS (NAMES and ~ in order)". */
    private static void aggregatesOfOtherFields(Due due) {
        unlike(due, "{x:U1}", "{y:U1}");
        unlike(due, "{x:U1}", "{x~:U1}");
        unlike(due, "{x:U1}", "{x:U1,y:U1}");
        unlike(due, "{x:U1}", "{x:U1,x:U1}");
        unlike(due, "{x:U1,y:U1}", "{y:U1,x:U1}");
        unlike(due, "{x:U1,y~:U1}", "{x~:U1,y:U1}");
        unlike(due, "{x:{y:U1}}", "{x:{z:U1}}");
        unlike(due, "{x:{y:U1}}", "{x:{y~:U1}}");
        unlike(due, "{x:{y:U1}}", "{x:U1}");
        unlike(due, "{x:{y:U1}}", "{y:{x:U1}}");
        unlike(due, "{x:{y:U1,z:U1}}", "{x:{y:U1},z:U1}");
        String alike = "{x:{y~:U1,z:U1[2]}[2],x:U1}";
        due.same("the same", due.compiled("Ra:" + alike + ";Rb:" + alike + ";a<=b;").count(4), 7);
    }

    /** "and vectors". */
    private static void aggregatesOfOtherVectors(Due due) {
        unlike(due, "U1[1]", "U1[2]");
        unlike(due, "U1[3]", "U1[4]");
        unlike(due, "U1[2][3]", "U1[3][2]");
        unlike(due, "U1[2]", "U1[2][1]");
        unlike(due, "U1[2]", "U1[1][2]");
        unlike(due, "U1[1]", "{x:U1}");
        unlike(due, "{x:U1}[1]", "{x:U1}");
        unlike(due, "{x:U1[1]}", "{x:U1}");
        unlike(due, "{x:U1[1]}", "{x:U1}[1]");
        unlike(due, "{x:U1[2]}[2]", "{x:U1[2]}[3]");
        due.same("the same", due.compiled("Ra:U1[2][3];Rb:U1[2][3];a<=b;").count(4), 6);
        due.same("of a place of one", due.compiled("Ra:U1[2][3];Rb:U1[2];a[2]<=b;").count(4), 2);
    }

    private static void unlike(Due due, String one, String other) {
        String in = "Ra:" + one + ";Rb:" + other + ";";
        due.typeError(in + "a<=b;", in.length());
        due.typeError(in + "b<=a;", in.length());
    }

    /** WIDTHS are none of what must be the same. */
    private static void widthsMayDiffer(Due due) {
        LowForge forge = due.compiled("Ra:{x:U1,y:U};Ib:{x:U16,y:U3};a<=b;");
        due.same("said", forge.signal(0, 1), 1);
        due.same("found", forge.signal(1, 1), 3);
    }

    /** "a SINK if it is of O and not FLIPPED, of I and FLIPPED, or of W or R"; none to three ~. */
    private static void sinksOfEachKind(Due due) {
        String[] types = {"U1", "{x:U1}", "{x~:U1}", "{x:{y:U1}}", "{x~:{y:U1}}", "{x:{y~:U1}}",
            "{x~:{y~:U1}}"};
        String[] refs = {"a", "a.x", "a.x", "a.x.y", "a.x.y", "a.x.y", "a.x.y"};
        boolean[] flipped = {false, false, true, false, true, true, false};
        for (int i = 0; i < types.length; i++) {
            for (int kind = 0; kind < 4; kind++) {
                String item = KINDS.charAt(kind) + "a:" + types[i] + ";";
                String step = refs[i] + "<=1;";
                if (kind > 1 || (kind == 0) == flipped[i]) {
                    LowForge forge = due.compiled(item + step);
                    due.same(item + " is of it", forge.signal(0, 0), kind);
                    due.same(item + " is a SINK", forge.signal(0, 2), 1);
                    due.same(item + " is counted", forge.count(2), 1);
                } else {
                    due.same(item + " is none", due.compiled(item).signal(0, 2), 0);
                    due.same(item + " is not counted", due.compiled(item).count(2), 0);
                    due.typeError(item + step, item.length());
                }
            }
        }
        due.same("a node is none", due.compiled("Na=1;").signal(0, 2), 0);
        due.typeError("Na=1;a<=1;", 5);
        due.same("of a vector all", due.compiled("Oa:{x~:U1}[4];").count(2), 0);
    }

    /** "or one that connects what is no SINK", though it be one of many. */
    private static void connectsSinksAlone(Due due) {
        String type = "{x:U1,y~:U1}";
        String in = "Ia:" + type + ";Ib:" + type + ";Oc:" + type + ";Od:" + type + ";We:" + type
                + ";";
        due.typeError(in + "a<=b;", in.length());
        due.typeError(in + "c<=d;", in.length());
        due.typeError(in + "a<=c;", in.length());
        due.typeError(in + "a<=e;", in.length());
        due.typeError(in + "e<=c;", in.length());
        due.same("each is a SINK", due.compiled(in + "c<=a;d<=e;e<=b;").count(4), 6);
        due.typeError("Ra:U1[4];Ib:U1[4];b<=a;", 18);
        due.typeError("Wa:{x~:U1};Nb=1;a.x<=b;b<=a.x;", 23);
    }

    /** "the other way round where an odd number of ~ is on the way from these REFS to it". */
    private static void connectsTheOtherWayRound(Due due) {
        String type = "{x:{p:U1,q~:U1},y~:{p:U1,q~:U1}}";
        LowForge forge = due.compiled("Ra:" + type + ";Rb:" + type + ";a<=b;");
        // None and two ~ go to the left, one goes to the right.
        int[] want = {1 << 4, 1 << 1, 1 << 2, 1 << 7, 1 << 4, 1 << 1, 1 << 2, 1 << 7};
        for (int k = 0; k < want.length; k++) {
            due.same("GROUND SIGNAL " + k, forge.depends(k), want[k]);
        }
        due.same("one each", forge.count(4), 4);
    }

    /** "from these REFS": what is on the way to them is none of it. */
    private static void tildesFromTheseRefsOn(Due due) {
        String type = "{x:{p:U1,q~:U1},y~:{p:U1,q~:U1}}";
        LowForge forge = due.compiled("Ra:" + type + ";Rb:" + type + ";a.y<=b.y;");
        int[] want = {1, 2, 1 << 6, 1 << 3, 1 << 4, 1 << 5, 1 << 6, 1 << 3};
        for (int k = 0; k < want.length; k++) {
            due.same("GROUND SIGNAL " + k, forge.depends(k), want[k]);
        }
        forge = due.compiled("Ra:{y~:U1};Rb:{y:U1};a.y<=b.y;");
        due.same("a ground one", forge.depends(0), 2);
        forge = due.compiled("Ra:{y~:U1[2]};Rb:{y:U1[2]};a.y<=b.y;");
        due.same("behind one ~ on one side", forge.depends(1), 8);
    }

    /** "(? has one by its EXPR alone; STEPS in it have their own.)" */
    private static void choicesByTheirExprAlone(Due due) {
        due.typeError("?a{b<=1;}", 0);
        due.typeError("?1{b<=1;}", 3);
        due.typeError("?1{}:{b<=1;}", 6);
        due.typeError("?1{ ?a{b<=1;}}", 4);
        due.typeError("?1{?1{?1{b<=1;}}}", 9);
        due.typeError("?1{?1{}:{ b<=1;}}", 10);
    }

    /** "the first ITEM or STEP with a TYPE ERROR". */
    private static void theFirstTypeError(Due due) {
        due.typeError(" a<=1;b<=1;", 1);
        due.typeError("Na=1;a<=1;b<=1;", 5);
        due.typeError("?1{}?1{a<=1;}b<=1;", 7);
        due.typeError("Na=1;Na=b;Na=1;", 5);
    }

    /** "FIELDS and places of vectors in order, the last [ ] .. being the outermost one". */
    private static void lastPlacesAreOutermost(Due due) {
        LowForge forge = due.compiled("Ia:{x:U1[2],y:U2}[2][3];Nb=a[2][0].x[1];Nc=a[0][1].y;");
        due.same("a[2][0].x[1]", forge.depends(18), 1 << 13);
        due.same("a[0][1].y", forge.depends(19), 1 << 5);
        due.same("the first", due.compiled("Ia:U1[2][3];Nb=a[0][0];").depends(6), 1);
        due.same("the last", due.compiled("Ia:U1[2][3];Nb=a[2][1];").depends(6), 32);
        due.same("of 24", due.compiled("Ra:U1[4][3][2];a[0][0][0]<=a[1][2][3];").depends(0),
                1 << 23);
    }
}

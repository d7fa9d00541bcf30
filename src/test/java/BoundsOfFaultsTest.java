/** The bounds that make a FAULT of the TEXT, a test for each sentence that names one. */
public final class BoundsOfFaultsTest {
    private static final String[] TWO_PARTS = {"+", "-", "&", "|", "^", "=", "<", "#"};

    public static void main(String[] args) {
        Due due = new Due("BoundsOfFaultsTest");
        endsMissing(due);
        endMissingBehindBlanks(due);
        endMissingBehind200(due);
        firstCharacterThatDoesNotGoOn(due);
        firstOfManyFaults(due);
        itemsNoneAndMany(due);
        stepsNoneAndMany(due);
        secondStepsNoneAndOnce(due);
        fieldsNoneAndMany(due);
        tildesNoneAndOne(due);
        partsAsManyAsTheyAre(due);
        arrowsAndLess(due);
        widthsOfU(due);
        placesOfVectors(due);
        bitsOfT(due);
        typesThreeDeep(due);
        exprsSixDeep(due);
        exprsSixDeepInEachPart(due);
        choicesThreeDeep(due);
        refsOfSixParts(due);
        due.end();
    }

    /** "or behind it all, if the end is missing": each start of an ITEM or STEP. */
    private static void endsMissing(Due due) {
        endsMissing(due, "Ia:U16;", 0);
        endsMissing(due, "Oa:{x~:U2[3],y:{z:U}[2]}[4][1];", 0);
        endsMissing(due, "Wa:U;", 0);
        endsMissing(due, "Ra:U[4];", 0);
        endsMissing(due, "Na=M(+(a.x,b[2].y),T(!(c),15,0),<(12345,d));", 0);
        endsMissing(due, "a.x[3].y<=-(&(a,b),|(^(1,2),#(=(3,4),5)));", 0);
        endsMissing(due, "?a[1]{a<=1;?b{}}:{b<=2;?c{}:{}}", 16);
        endsMissing(due, "?1{?1{?1{}}}", 0);
    }

    /** But for the one that is whole already, each start has its FAULT behind it all. */
    private static void endsMissing(Due due, String whole, int alsoWhole) {
        for (int length = 1; length < whole.length(); length++) {
            String start = whole.substring(0, length);
            boolean halfArrow = whole.startsWith("<=", length - 1);
            if (length != alsoWhole) {
                due.fault(start, halfArrow ? length - 1 : length);
                due.fault("Nx=1;" + start, 5 + (halfArrow ? length - 1 : length));
            }
        }
    }

    private static void endMissingBehindBlanks(Due due) {
        due.fault("I ", 2);
        due.fault("Ia:U1  ", 7);
        due.fault(" ?1{ }: ", 8);
        due.fault("?1{   ", 6);
    }

    /** "at the first character with which none goes on so": the first one of more than one. */
    private static void firstCharacterThatDoesNotGoOn(Due due) {
        due.fault("@", 0);
        due.fault("Ia:U1;@@", 6);
        due.fault("Ia:U1@;Ib:U0;", 5);
        due.fault("Ia:U0;Ib:U1@", 4);
        due.fault("Ia:U17", 4);
        due.fault("Na=T(1,16", 7);
        due.fault("Na=T(1,2,3", 9);
        due.fault("Na=65536;Nb", 3);
        due.fault("Ia:U1;;", 6);
        due.fault("}", 0);
        due.fault("Ia:U1;}", 6);
        due.fault("U1;", 0);
        due.fault("M(1,2,3);", 0);
        due.fault("=(1,2);", 0);
        due.fault("?1{Ia:U1;}", 3);
        due.fault("?1{Oa:U1;}", 3);
        due.fault("?1{Wa:U1;}", 3);
        due.fault("?1{Ra:U1;}", 3);
        due.fault("?1{Na=1;}", 3);
        due.fault("?1{}:{Na=1;}", 6);
    }

    /** Whatever comes behind the first one, it stays that one. */
    private static void firstOfManyFaults(Due due) {
        String[] starts = {"Na=T(1,5,", "Na=T(1,", "Na=T(", "Na=+(1,", "Na=+(", "Na=M(1,2,", "Na=M(1,",
            "Na=!(", "Na=", "N", "I", "Ia:", "Ia:{", "Ia:{x:", "Ia:{x:U,", "Ia:U1[", "a[", "a.",
            "a<=", "?", "?1", "?1{}:", "Nb=a[", "Nb=a.", "?1{a<=", "Nb=!(a"};
        for (String start : starts) {
            due.fault(start, start.length());
            for (String behind : new String[] {"", "@", ";", ")", "))", ");", "}", "};", "]", "];",
                "Ia:U0;", "@@", " ;"}) {
                due.fault(start + "@" + behind, start.length());
                if (!start.endsWith("a")) {
                    due.fault(start + ")" + behind, start.length());
                }
                due.fault(start + " $" + behind, start.length() + 1);
            }
        }
    }

    /** "behind it all", when 200 TOKENS of one character each stand before it. */
    private static void endMissingBehind200(Due due) {
        String[] starts = {"N", "Na", "Na=", "Na=1", "Na=+", "Na=+(", "Na=+(1", "Na=+(1,",
            "Na=+(1,2", "Na=+(1,2)", "Na=T(1,", "Na=T(1,2", "Na=T(1,2,", "Na=T(1,2,1", "Na=a.",
            "Na=a[", "Na=a[1", "Na=a[1]", "I", "Ia", "Ia:", "Ia:U", "Ia:U1", "Ia:U1[", "Ia:U1[1",
            "Ia:U1[1]", "Ia:{", "Ia:{x", "Ia:{x~", "Ia:{x:", "Ia:{x:U", "Ia:{x:U,", "Ia:{x:U}",
            "a", "a.", "a[", "?", "?1", "?1{", "?1{?1{}", "?1{}:", "?1{}:{"};
        for (String start : starts) {
            for (int length = 198; length <= 200; length++) {
                due.fault(items(length - start.length()) + start, length);
            }
        }
        due.same("all is there", due.compiled(items(200)).count(0), 200);
    }

    /** So many characters (12 or more) that are ITEMS, each of them a TOKEN. */
    private static String items(int length) {
        int longer = length % 4;
        return "Na=1;Nb=1;Nc=1;".substring(0, 5 * longer)
                + "?1{}".repeat((length - 5 * longer) / 4);
    }

    /** "{ ITEM }": none, one, as many as a text holds. */
    private static void itemsNoneAndMany(Due due) {
        due.same("none", due.compiled("").count(1), 0);
        due.same("one", due.compiled("Na=1;").count(1), 1);
        due.same("two", due.compiled("Na=1;Nb=1;").count(1), 2);
        due.same("39", due.compiled("Wa:U1;" + "a<=1;".repeat(38)).count(4), 38);
        due.same("50", due.compiled("?1{}".repeat(50)).count(1), 0);
    }

    /** "{ { STEP } }": none, one, as many as a text holds, in both of a ?. */
    private static void stepsNoneAndMany(Due due) {
        String in = "Ra:U1;";
        due.same("none", due.compiled(in + "?1{}").count(4), 0);
        due.same("none of both", due.compiled(in + "?1{}:{}").count(4), 0);
        due.same("one", due.compiled(in + "?1{a<=1;}").count(4), 1);
        due.same("one of the second", due.compiled(in + "?1{}:{a<=1;}").count(4), 1);
        due.same("38", due.compiled(in + "?1{" + "a<=1;".repeat(38) + "}").count(4), 38);
        due.same("37", due.compiled(in + "?1{}:{" + "a<=1;".repeat(37) + "}").count(4), 37);
    }

    /** "[ : { { STEP } } ]": none or one. */
    private static void secondStepsNoneAndOnce(Due due) {
        due.fault("?1{}:", 5);
        due.fault("?1{}:;", 5);
        due.fault("?1{}:{}:{}", 7);
        due.fault("?1{}{}", 4);
        due.fault(":{}", 0);
        due.fault("?1:{}", 2);
        due.same("behind the inner and the outer", due.compiled("?1{?1{}:{}}:{}").count(1), 0);
        due.fault("?1{?1{}:{}}:{}:{}", 14);
    }

    /** "FIELD { , FIELD }": at least one. */
    private static void fieldsNoneAndMany(Due due) {
        due.fault("Ia:{};", 4);
        due.fault("Ia:{,x:U1};", 4);
        due.fault("Ia:{x:U1,};", 9);
        due.fault("Ia:{x:U1;};", 8);
        due.same("one", due.compiled("Ia:{x:U1};").count(1), 1);
        due.same("two", due.compiled("Ia:{x:U1,y:U1};").count(1), 2);
        String many = "x:U1" + ",x:U1".repeat(23);
        due.same("24", due.compiled("Ia:{" + many + "};").count(1), 24);
        due.typeError("Ia:{" + many + ",x:U1};", 0);
    }

    /** "NAME [ ~ ] : TYPE": none or one. */
    private static void tildesNoneAndOne(Due due) {
        due.same("none", due.compiled("Oa:{x:U1};a.x<=1;").signal(0, 2), 1);
        due.same("one", due.compiled("Oa:{x~:U1};").signal(0, 2), 0);
        due.fault("Oa:{x~~:U1};", 6);
        due.fault("Oa:{~x:U1};", 4);
        due.fault("Oa~:U1;", 2);
    }

    /** One part too few and one too many of each EXPR. */
    private static void partsAsManyAsTheyAre(Due due) {
        for (String op : TWO_PARTS) {
            due.same(op, due.compiled("Na=" + op + "(1,2);").count(1), 1);
            due.fault("Na=" + op + "();", 5);
            due.fault("Na=" + op + "(1);", 6);
            due.fault("Na=" + op + "(1,);", 7);
            due.fault("Na=" + op + "(1,2,3);", 8);
            due.fault("Na=" + op + ";", 4);
        }
        due.fault("Na=!();", 5);
        due.fault("Na=!(1,2);", 6);
        due.fault("Na=M(1,2);", 8);
        due.fault("Na=M(1,2,3,4);", 10);
        due.fault("Na=T(1,2);", 8);
        due.fault("Na=T(1,2,1,0);", 10);
        due.fault("Na=();", 3);
    }

    /** "< where only <= may be, and <= where an EXPR may be, at their <". */
    private static void arrowsAndLess(Due due) {
        due.fault("Wa:U2;a<2;", 7);
        due.fault("Wa:U2;a<", 7);
        due.fault("Wa:U2;a<(1,2);", 7);
        due.fault("Wa:U2;a < =2;", 8);
        due.fault("Wa:U2;a<<=2;", 7);
        due.fault("Wa:U2;a", 7);
        due.fault("Wa:U2;a=<1;", 7);
        due.fault("Na=<=(1,2);", 3);
        due.fault("Na=+(1, <=(1,2));", 8);
        due.fault("Wa:U1;a<=<=(1,2);", 9);
        due.fault("?<=(1,2){}", 1);
        due.fault("Na=!(<=", 5);
        due.fault("Na<=1;", 2);
        due.same("less of an equal", due.compiled("Na=<(=(1,1),2);").value(0), 1);
        due.same("an equal right behind <=", due.compiled("Wa:U1;a<==(1,1);").value(0), 1);
        due.same("a less right behind <=", due.compiled("Wa:U1;a<=<(1,2);").value(0), 1);
    }

    /** "NUMBERS of U not 1 to 16". */
    private static void widthsOfU(Due due) {
        due.fault("Ia:U0;", 4);
        for (int width = 1; width <= 16; width++) {
            due.same("U" + width, due.compiled("Ia:U" + width + ";").signal(0, 1), width);
        }
        due.fault("Ia:U17;", 4);
        due.fault("Ia:U 17;", 5);
        due.fault("Ia:U65535;", 4);
        due.fault("Ia:{x:U16,y:U17};", 13);
        due.fault("Ia:{x:U1,y:U0};", 12);
    }

    /** "of a vector not 1 to 4". */
    private static void placesOfVectors(Due due) {
        due.fault("Ia:U1[0];", 6);
        for (int places = 1; places <= 4; places++) {
            String text = "Ia:U1[" + places + "];";
            due.same(text, due.compiled(text).count(1), places);
            text = "Ia:U1[3][" + places + "];";
            due.same(text, due.compiled(text).count(1), 3 * places);
        }
        due.fault("Ia:U1[5];", 6);
        due.fault("Ia:U1[ 5];", 7);
        due.fault("Ia:U1[65535];", 6);
        due.fault("Ia:U1[4][0];", 9);
        due.fault("Ia:U1[4][5];", 9);
        due.fault("Ia:{x:U1}[0];", 10);
        due.fault("Ia:{x:U1}[5];", 10);
        due.fault("Ia:{x:U1[5]};", 9);
    }

    /** "of T not 15 to 0 (the NUMBER), or the first one below the second (the second one)". */
    private static void bitsOfT(Due due) {
        for (int high = 0; high <= 17; high++) {
            for (int low = 0; low <= 18; low++) {
                String start = "Na=T(1," + high + ",";
                String text = start + low + ");";
                if (high > 15) {
                    due.fault(text, 7);
                } else if (low > high) {
                    due.fault(text, start.length());
                } else {
                    due.same(text, due.compiled(text).signal(0, 1), high - low + 1);
                }
            }
        }
        due.fault("Na=T(1,65535,0);", 7);
        due.fault("Na=T(1,15,65535);", 10);
    }

    /** "TYPES deeper than 3 (in a FIELD it is one deeper; the first character of it)". */
    private static void typesThreeDeep(Due due) {
        due.same("one", due.compiled("Ia:U1;").count(1), 1);
        due.same("two", due.compiled("Ia:{x:U1};").count(1), 1);
        due.same("three", due.compiled("Ia:{x:{y:U1}};").count(1), 1);
        due.fault("Ia:{x:{y:{z:U1}}};", 12);
        due.fault("Ia:{x:{y:{z: U1}}};", 13);
        due.fault("Ia:{x:{y:{z:{w:U1}}}};", 12);
        due.fault("Ia:{x:{y:{z:U0}}};", 12);
        due.fault("Ia:{x:{y:{z:", 12);
        due.fault("Ia:{x:{y:{z", 11);
        due.same("side by side", due.compiled("Ia:{x:{y:U1,z:U1},y:U1,z:{z:U1}};").count(1), 4);
        due.fault("Ia:{x:{y:U1},z:{v:U1,w:{a:U1}}};", 26);
        String vectors = "[1][1][1][1]";
        due.same("[ ] is not deeper", due.compiled("Ia:{x:{y:U1" + vectors + "}" + vectors + "}"
                + vectors + ";").count(1), 1);
    }

    /** "EXPRS deeper than 6 (each part is one deeper; likewise)", wherever one stands. */
    private static void exprsSixDeep(Due due) {
        String[] starts = {"Na=", "Ra:U16;a<=", "?", "?1{?1{?"};
        String[] ends = {";", ";", "{}", "{}}}"};
        for (int i = 0; i < starts.length; i++) {
            for (int depth = 1; depth <= 8; depth++) {
                String text = starts[i] + "!(".repeat(depth - 1) + "1" + ")".repeat(depth - 1)
                        + ends[i];
                if (depth <= 6) {
                    due.same(text, due.compiled(text).where(), -2);
                } else {
                    due.fault(text, starts[i].length() + 12);
                }
            }
        }
        due.fault("Na=!(!(!(!(!(!( 1))))));", 16);
        due.fault("Na=!(!(!(!(!(!(", 15);
        due.fault("Na=!(!(!(!(!(!", 14);
        due.fault("Na=!(!(!(!(!(!(a.x))))));", 15);
    }

    private static void exprsSixDeepInEachPart(Due due) {
        for (String op : TWO_PARTS) {
            sixDeep(due, op + "(", ",1)");
            sixDeep(due, op + "(1,", ")");
        }
        sixDeep(due, "!(", ")");
        sixDeep(due, "M(", ",1,1)");
        sixDeep(due, "M(1,", ",1)");
        sixDeep(due, "M(1,1,", ")");
        sixDeep(due, "T(", ",1,0)");
        due.same("the NUMBERS of T are no parts",
                due.compiled("Na=!(!(!(!(T(1,0,0)))));").count(1), 1);
    }

    /** The part between before and behind may be the sixth, but have no part. */
    private static void sixDeep(Due due, String before, String behind) {
        String four = "Na=!(!(!(!(" + before;
        String text = four + "1" + behind + "))));";
        due.same(text, due.compiled(text).where(), -2);
        due.fault(four + "!(1)" + behind + "))));", four.length() + 2);
        due.fault("Na=!(!(!(!(!(" + before + "1" + behind + ")))));", 15);
    }

    /** "? deeper than 3 .. (that one)". */
    private static void choicesThreeDeep(Due due) {
        due.same("one", due.compiled("?1{}").count(1), 0);
        due.same("two", due.compiled("?1{?1{}}").count(1), 0);
        due.same("three", due.compiled("?1{?1{?1{}}}").count(1), 0);
        due.fault("?1{?1{?1{?1{}}}}", 9);
        due.fault("?1{?1{?1{ ?1{}}}}", 10);
        due.fault("?1{?1{?1{?", 9);
        due.same("in the second ones", due.compiled("?1{}:{?1{}:{?1{}:{}}}").count(1), 0);
        due.fault("?1{}:{?1{}:{?1{}:{?1{}}}}", 18);
        due.fault("?1{}:{?1{}:{?1{?1{}}}}", 15);
        due.same("side by side", due.compiled("?1{?1{?1{}?1{}}?1{}}?1{?1{?1{}}}").count(1), 0);
        due.same("behind three", due.compiled("?1{?1{?1{}:{}}:{}}:{?1{?1{}}}").count(1), 0);
        due.fault("?1{?1{?1{}}}?1{?1{?1{?1{}}}}", 21);
    }

    /** "a seventh . or [ of a REF (that one)", on both sides and in an EXPR. */
    private static void refsOfSixParts(Due due) {
        String in = "Wa:{x:U1}[1][1][1][1][1];";
        String five = "a[0][0][0][0][0]";
        due.same("none", due.compiled(in + "a<=a;" + five + ".x<=1;").count(4), 2);
        due.loop(in + five + "<=" + five + ";", 0);
        due.loop(in + five + ".x<=" + five + ".x;", 0);
        due.same("six", due.compiled(in + five + ".x<=1;Nb=!(" + five + ".x);").count(1), 2);
        int left = in.length() + five.length();
        due.typeError(in + five + "[0]<=1;", in.length());
        due.typeError(in + five + ".y<=1;", in.length());
        due.fault(in + five + ".x.x<=1;", left + 2);
        due.fault(in + five + ".x[0]<=1;", left + 2);
        due.fault(in + five + "[0][0]<=1;", left + 3);
        due.fault(in + five + ".x .x<=1;", left + 3);
        due.fault(in + five + ".x[", left + 2);
        due.fault("Nb=" + five + ".x.x;", five.length() + 5);
        due.fault("Nb=!(" + five + ".x[0]);", five.length() + 7);
        due.fault("c<=" + five + ".x.x;", five.length() + 5);
        due.fault("?" + five + ".x[0]{}", five.length() + 3);
        due.fault("b.a.c.d.e.f.g.h<=1;", 13);
        due.typeError("b.a.c.d.e.f.g<=1;", 0);
    }
}

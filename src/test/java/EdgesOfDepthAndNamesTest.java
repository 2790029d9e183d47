/** The sentences of 'Terms' about depth, bound names and where a text is ILL, a method for each. */
public final class EdgesOfDepthAndNamesTest {
    /** What goes one deeper: what stands before the deeper expression, and what behind it. */
    private static final String[][] DEEPER = {
        {"(", ")"}, {"B(", ")"}, {"C(", ",2)"}, {"D(", ",2,3)"}, {"a=", ";1"}, {"@fx=", ";1"}, {"\\y a=", ";1"},
        {"?A{A:", ";}"}, {"?A{Bx:", ";}"}, {"1+(", ")"}, {"?(", "){A:1;}"}, {"A(", ")"}
    };

    public static void main(String[] args) {
        fiveDeep();
        sixDeep();
        theSameDepth();
        mustBeBound();
        functionBinds();
        valueBinds();
        namedFunctionBinds();
        namedFunctionBindsInside();
        caseBinds();
        boundAgain();
        firstPlace();
        nameNotBound();
        nameMustDiffer();
        constructorAlready();
        endsTooEarly();
        tooManyInstructions();
        Check.finish();
    }

    private static int length(String text) {
        return text.replace(" ", "").length();
    }

    private static String nested(String[] way, int times) {
        return Check.repeated(way[0], times) + "1" + Check.repeated(way[1], times);
    }

    private static void fiveDeep() {
        Check.sentence("The whole text is an expression, 0 DEEP");
        for (String[] way : DEEPER) {
            Check.well(nested(way, 1));
            Check.well(nested(way, 4));
            Check.well(nested(way, 5));
            Check.well(Check.repeated("(", 4) + nested(way, 1) + Check.repeated(")", 4));
        }
    }

    private static void sixDeep() {
        Check.sentence("One that is bound by a head, a field, in parentheses or of a case is one deeper; it can't be 6 deep");
        for (String[] way : DEEPER) {
            Check.ill(nested(way, 6), 6 * length(way[0]));
            Check.ill(Check.repeated("(", 5) + nested(way, 1) + Check.repeated(")", 5), 5 + length(way[0]));
            Check.ill(nested(way, 5).replace("1" + Check.repeated(way[1], 5), "(1)" + Check.repeated(way[1], 5)),
                5 * length(way[0]) + 1);
            // at its first character, whatever that is, and if it isn't there
            Check.ill(Check.repeated(way[0], 6), 6 * length(way[0]));
            Check.ill(Check.repeated(way[0], 6) + "!", 6 * length(way[0]));
            Check.ill(Check.repeated(way[0], 6) + "a=1;a", 6 * length(way[0]));
            Check.ill(Check.repeated(way[0], 6) + "\\x x", 6 * length(way[0]));
            Check.ill(Check.repeated(way[0], 6) + "?A{A:1;}", 6 * length(way[0]));
        }
        Check.ill(Check.repeated("(", 90), 6);
        Check.well("((((C(1,2)))))");
        Check.ill("((((C(1,(2))))))", 9);
        Check.ill("((((D(1,2,(2))))))", 11);
        Check.ill("((((?A{A:1;E:(1);}))))", 14);
    }

    private static void theSameDepth() {
        Check.sentence("one deeper than the one that it lies in");
        Check.well("\\x(((((x)))))");
        Check.well("a=1;(((((a)))))");
        Check.well("@fx=1;(((((f)))))");
        Check.well("?(((((1))))){A:1;}");
        Check.well("(((((1)))))+(((((1)))))");
        Check.well("(((((1)))))(((((1)))))");
        Check.well("a=((((1))));b=((((1))));(((((1)))))");
        Check.well("C(((((1)))),((((1)))))");
        Check.well("?A{A:((((1))));E:((((1))));}");
        Check.well("((((\\x\\y a=1;?x{A:1;})))) ");
    }

    private static void mustBeBound() {
        Check.sentence("A name must be BOUND where it stands");
        for (char c = 'a'; c <= 'z'; c++) {
            Check.ill(String.valueOf(c), 0);
            Check.ill(c + "+1", 0);
            Check.ill("1" + c, 1);
            Check.ill("1+(" + c + ")", 3);
        }
        Check.ill("\\a b", 2);
        Check.ill("\\b a", 2);
        // what an earlier text bound is bound no more, were it well or ill
        ClosureHeap x = new ClosureHeap(100);
        for (String before : new String[] {"\\a a", "a=1;a", "\\a)", "a=1;)", "@ab=1)", "@ba=1)", "?A{Ba:)"}) {
            Check.type(x, before);
            Check.thrown(x::compile);
            Check.type(x, "a");
            Check.dueThrown("a behind " + before, x::compile, Check.ILLEGAL_ARGUMENT);
            Check.due("its place", x.place(), 0);
            Check.recompile(x, "\\z z");
            Check.due("none was bound behind " + before, x.code(2, 1), 0);
        }
    }

    private static void functionBinds() {
        Check.sentence("\\x binds x in all that is behind it in its expression");
        Check.well("\\x x+x*x x<x");
        Check.well("\\x a=x;@fy=x;?x{A:x;Bz:x;}");
        Check.well("\\x C(x,(x))");
        Check.ill("(\\x x)x", 5);
        Check.ill("C(\\x x,x)", 6);
        Check.ill("a=\\x x;x", 6);
        Check.ill("@fy=\\x x;x", 8);
        Check.ill("?A{A:\\x x;E:x;}", 11);
        Check.ill("x\\x x", 0);
    }

    private static void valueBinds() {
        Check.sentence("x=e; binds x in all that is behind it in its expression");
        Check.well("x=1;x+x*x x<x");
        Check.well("x=1;a=x;@fy=x;\\z?x{A:x;Bz:x;}");
        Check.ill("x=x;1", 2);
        Check.ill("x=1+x;1", 4);
        Check.ill("x=\\y x;1", 4);
        Check.ill("x=y;y=1;x", 2);
        Check.ill("(x=1;x)x", 7);
        Check.ill("C(x=1;x,x)", 8);
        Check.ill("a=x=1;x;x", 8);
        Check.ill("?A{A:x=1;x;E:x;}", 13);
    }

    private static void namedFunctionBinds() {
        Check.sentence("@f x=e; binds f in all that is behind it in its expression");
        Check.well("@fx=1;f+f*f f<f");
        Check.well("@fx=1;a=f;@gy=f;\\z?f{A:f;Bz:f;}");
        Check.ill("@fx=1;x", 6);
        Check.ill("@fx=x;f x", 7);
        Check.ill("(@fx=1;f)f", 9);
        Check.ill("C(@fx=1;f,f)", 10);
        Check.ill("a=@fx=1;f;f", 10);
        Check.ill("(@fx=1;f)x", 9);
    }

    private static void namedFunctionBindsInside() {
        Check.sentence("@f x= binds f and x in e");
        Check.code("@fx=x;f", "SELF:2 JUMP:4 ACCESS RETURN BIND ACCESS UNBIND:1 HALT");
        Check.code("@fx=f;f", "SELF:2 JUMP:4 ACCESS:1 RETURN BIND ACCESS UNBIND:1 HALT");
        Check.ill("@fx=y;f", 4);
        Check.well("\\y@fx=y;f");
    }

    private static void caseBinds() {
        Check.sentence("a case its names in its expression");
        Check.code("?A{Bx:x;}", "TAG SWITCH:1 CASE:1:3 OPEN:1 ACCESS UNBIND:1 JUMP:7 HALT");
        Check.well("?A{Dxyz:x+y+z;}");
        Check.ill("?A{Bx:x;A:x;}", 10);
        Check.ill("?A{Bx:x;By:x;}", 8);
        Check.ill("?A{Bx:x;Fy:x;}", 11);
        Check.ill("(?A{Bx:x;})x", 11);
        Check.ill("?x{Bx:x;}", 1);
        Check.ill("?A{Bx:y;}", 6);
        Check.ill("?A{Dxyz:w;}", 8);
    }

    private static void boundAgain() {
        Check.sentence("The same name may be bound again");
        Check.code("\\x\\x x", "CLOSURE:2 JUMP:7 CLOSURE:4 JUMP:6 ACCESS RETURN RETURN HALT");
        Check.code("x=1;x=x;x", "NUMBER:1 BIND ACCESS BIND ACCESS UNBIND:1 UNBIND:1 HALT");
        Check.code("\\f@fx=f;f", "CLOSURE:2 JUMP:10 SELF:4 JUMP:6 ACCESS:1 RETURN BIND ACCESS UNBIND:1 RETURN HALT");
        Check.code("\\x@fx=x;x", "CLOSURE:2 JUMP:10 SELF:4 JUMP:6 ACCESS RETURN BIND ACCESS:1 UNBIND:1 RETURN HALT");
        Check.code("\\x?x{Bx:x;}", "CLOSURE:2 JUMP:10 ACCESS SWITCH:1 CASE:1:5 OPEN:1 ACCESS UNBIND:1 JUMP:9 RETURN HALT");
        // the one before is meant again, where the later one ends
        Check.code("x=1;(x=2;x)x",
            "NUMBER:1 BIND ACCESS PUSH NUMBER:2 BIND ACCESS UNBIND:1 APPLY UNBIND:1 HALT");
        Check.code("x=1;(?A{Bx:x;})x",
            "NUMBER:1 BIND ACCESS PUSH TAG SWITCH:1 CASE:1:7 OPEN:1 ACCESS UNBIND:1 JUMP:11 APPLY UNBIND:1 HALT");
    }

    private static void firstPlace() {
        Check.sentence("A text is ILL at the first place where a character can't stand");
        Check.ill("!", 0);
        Check.ill("1!", 1);
        Check.ill("1)x", 1);
        Check.ill("x)", 0);
        Check.ill("1+)x", 2);
        Check.ill("(1;x", 2);
        Check.ill("?A{A:1;A:x", 7);
        Check.ill("?A{A:x;A:1", 5);
        Check.ill("@ff=x", 2);
        Check.ill("((((((x", 6);
        Check.ill("(((((x(", 5);
        Check.ill(Check.repeated("1+", 44) + "!", 88);
        Check.ill(Check.repeated("1+", 44) + "x1", 88);
        String text = "\\x@fy=?x{A:C(y,f);Bz:D(z,1+2*3-4,E);};a=f 1<2;?a{E:a;A:(x)y;}";
        Check.ill(text, length(text) - 3);
        for (char c = 33; c <= 126; c++) {
            if ("(".indexOf(c) < 0 && "\\@?".indexOf(c) < 0 && !(c >= '0' && c <= '9') && !(c >= 'A' && c <= 'H')) {
                Check.ill(c + "1", 0);
                Check.ill("(" + c, 1);
                Check.ill("1+" + c + "+", 2);
            }
        }
    }

    private static void nameNotBound() {
        Check.sentence("for a name: where it isn't bound");
        Check.ill("x", 0);
        Check.ill("x y", 0);
        Check.ill("\\x x y", 3);
        Check.ill("\\x y x", 2);
        Check.ill("x1", 0);
        Check.ill("x;", 0);
    }

    private static void nameMustDiffer() {
        Check.sentence("for a name: where it .. must differ");
        Check.ill("@gg=1;2", 2);
        Check.ill("\\x@xx=1;2", 4);
        Check.ill("?A{Cgg:1;}", 5);
        Check.ill("?A{Dghg:1;}", 6);
        Check.ill("?A{Dghg", 6);
    }

    private static void constructorAlready() {
        Check.sentence("a constructor that has a case already");
        Check.ill("?1{E:1;E", 7);
        Check.ill("?1{Bx:1;Bx:1;}", 8);
        Check.ill("?1{E:1;A:1;E:1;}", 11);
        Check.ill("?1{E:?1{E:1;E:1;};}", 12);
    }

    private static void endsTooEarly() {
        Check.sentence("at its length if it ends too early");
        String[] texts = {
            "@fx=?x<1{E:0;A:f(x-1);};f 1", "C(1,D(1,2*3,\\x x))~1", "?G(1,2){Gxy:x;Hxyz:(y);A:1;}", "(((((1)))))",
            "(\\x\\y B(x))", "(1+2-3*4<5)"
        };
        for (String text : texts) {
            Check.well(text);
            String dense = text.replace(" ", "");
            for (int cut = 0; cut < dense.length(); cut++) {
                if (isWhole(dense.substring(0, cut))) {
                    Check.well(dense.substring(0, cut));
                } else {
                    Check.ill(dense.substring(0, cut), cut);
                    Check.ill(dense.substring(0, cut) + " ", cut);
                }
            }
        }
    }

    /** The beginnings of these texts that are well by themselves end behind the whole of a constructor or a head's part. */
    private static boolean isWhole(String text) {
        return text.equals("@fx=?x<1{E:0;A:f(x-1);};f") || text.equals("C(1,D(1,2*3,\\xx))");
    }

    private static void tooManyInstructions() {
        Check.sentence("or, at its length, if its code would have more than 120 instructions");
        ClosureHeap x = new ClosureHeap(100);
        String most = "B(1)+" + Check.repeated("1+", 38) + "1";
        Check.type(x, most);
        Check.due("120 are compiled", x.compile(), 120);
        Check.due("place", x.place(), ClosureHeap.NONE);
        Check.due("HALT is the last one", x.code(119, 0), 0);
        Check.due("none behind it", x.code(120, 0), ClosureHeap.NONE);
        String over = "B(1)+B(1)+" + Check.repeated("1+", 37) + "1";
        Check.type(x, over);
        Check.dueThrown("121", x::compile, Check.ILLEGAL_ARGUMENT);
        Check.due("place", x.place(), over.length());
        Check.due("the code stays", x.code(119, 0), 0);
        Check.due("nothing of the new code", x.code(5, 0), Check.kindOf("PUSH"));
        Check.ill(over, over.length());
        Check.ill("1 " + Check.repeated("+1", 40), 81);
        Check.ill("\\x" + Check.repeated("x", 88), 90);
        Check.ill(Check.repeated("\\x", 40) + "1", 81);
        Check.well(Check.repeated("\\x", 39) + "1");
        // a character that can't stand counts first
        Check.ill(Check.repeated("1+", 41) + ")", 82);
        Check.ill(Check.repeated("1+", 41), 82);
    }
}

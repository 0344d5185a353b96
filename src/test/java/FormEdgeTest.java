import java.util.Arrays;
import java.util.List;

/** The boundary cases of the form of a text (the first half of part 2 of the document): what may stand where, and what is NESTED. */
public final class FormEdgeTest {
    private static final String[] ALL = ("add always and assert back call cas cell else end fence finally give idle if join let lock mod not or pause "
            + "self start sure swap take thread wait wake wakeall while x 1 = == != < <= > >= + - * / ( ) { } [ ] ; ,").split(" ");
    private static final String OPERATORS = "or and == != < <= > >= + - * / mod";
    private static final String CLAIM = "1 x ( not -";
    private static final String SUM = CLAIM + " self";
    private static final String SOURCE = SUM + " swap add cas";
    private static final String STATEMENT = "let x if while lock take give wait wake wakeall start join fence pause assert call back end }";

    public static void main(String[] args) {
        definitions();
        claims();
        statements();
        sources();
        ifs();
        wholeText();
        nestedStatements();
        nestedElses();
        nestedSums();
        sumsOfStatements();
        operators();
        nestedOrForm();
        Checks.end();
    }

    /** Behind a beginning of a text these tokens may stand, and no other: such a one is FAULT 2, at it. */
    private static void behind(String before, String allowed) {
        Checks.fault(before + "@", 2);
        allowed(before, allowed);
    }

    private static void allowed(String before, String allowed) {
        List<String> may = Arrays.asList(allowed.split(" "));
        for (String token : ALL) {
            String text = before + " " + token;
            ScheduleHouse x = Checks.fed(text);
            boolean refused = x.compile() == -2 && x.fault(0) == before.length() + 1;
            Checks.due("FAULT 2 at '" + token + "' behind '" + before + "'", refused, !may.contains(token));
        }
    }

    private static void definitions() {
        Checks.says("DEF: [sure] cell NAME [[ WHOLE ]] [= END] ; | lock NAME ; | [idle] thread NAME BLOCK | always E ; | finally E ;");
        allowed("", "sure cell lock idle thread always finally");
        allowed("lock a;", "sure cell lock idle thread always finally");
        allowed("thread a { }", "sure cell lock idle thread always finally");
        behind("sure", "cell");
        for (String cell : new String[] {"cell", "sure cell"}) {
            behind(cell, "x");
            behind(cell + " a", "[ = ;");
            behind(cell + " a [", "1");
            behind(cell + " a [ 2", "]");
            behind(cell + " a [ 2 ]", "= ;");
            behind(cell + " a =", "- 1");
            behind(cell + " a = -", "1");
            behind(cell + " a = 1", ";");
            behind(cell + " a [ 2 ] = - 1", ";");
        }
        behind("lock", "x");
        behind("lock a", ";");
        behind("idle", "thread");
        behind("thread", "x");
        behind("idle thread", "x");
        behind("thread a", "{");
        behind("thread a {", STATEMENT);
    }

    private static void claims() {
        Checks.says("in always, finally also NAME [ WHOLE ], but no self");
        for (String claim : new String[] {"always", "finally"}) {
            String row = "cell r[2]; " + claim;
            behind(row, CLAIM);
            behind(row + " 1", OPERATORS + " ;");
            behind(row + " r", OPERATORS + " ; [");
            behind(row + " r [", "1");
            behind(row + " r [ 1", "]");
            behind(row + " r [ 1 ]", OPERATORS + " ;");
            behind(row + " (", CLAIM);
            behind(row + " ( 1", OPERATORS + " )");
            behind(row + " ( r", OPERATORS + " ) [");
            behind(row + " ( r [ 1 ]", OPERATORS + " )");
            behind(row + " ( 1 )", OPERATORS + " ;");
            behind(row + " ( ( 1 )", OPERATORS + " )");
            behind(row + " not", CLAIM);
            behind(row + " -", CLAIM);
            for (String operator : OPERATORS.split(" ")) {
                behind(row + " 1 " + operator, CLAIM);
            }
            behind(row + " 1 + r", OPERATORS + " ; [");
        }
    }

    private static void statements() {
        Checks.says("S: ...");
        String t = "thread t { ";
        behind(t + "pause ;", STATEMENT);
        behind(t + "let", "x");
        behind(t + "let a", "=");
        behind(t + "a", "= [");
        behind(t + "a [", SUM);
        behind(t + "a [ 1", OPERATORS + " ]");
        behind(t + "a [ b", OPERATORS + " ]");
        behind(t + "a [ 1 ]", "=");
        behind(t + "a [ 1 ] =", SUM);
        behind(t + "a [ 1 ] = 1", OPERATORS + " ;");
        behind(t + "a [ 1 ] = b", OPERATORS + " ;");
        for (String named : "take give wait wake wakeall start join".split(" ")) {
            behind(t + named, "x");
            behind(t + named + " a", ";");
        }
        for (String alone : "fence pause end".split(" ")) {
            behind(t + alone, ";");
        }
        for (String summed : "assert back".split(" ")) {
            behind(t + summed, SUM);
            behind(t + summed + " 1", OPERATORS + " ;");
            behind(t + summed + " a", OPERATORS + " ;");
            behind(t + summed + " self", OPERATORS + " ;");
        }
        behind(t + "call", "1");
        behind(t + "call 1", ",");
        behind(t + "call 1 ,", SUM);
        behind(t + "call 1 , 1", OPERATORS + " ;");
        behind(t + "while", SUM);
        behind(t + "while 1", OPERATORS + " {");
        behind(t + "while 1 {", STATEMENT);
        behind(t + "while 1 { }", STATEMENT);
        behind(t + "lock", "x");
        behind(t + "lock a", "{");
        behind(t + "lock a {", STATEMENT);
        behind(t + "lock a { }", STATEMENT);
    }

    private static void sources() {
        Checks.says("R: E | NAME [ E ] | swap PLACE , E | add PLACE , E | cas PLACE , E , E    PLACE: NAME [[ E ]]");
        for (String to : new String[] {"thread t { let a =", "thread t { a ="}) {
            behind(to, SOURCE);
            behind(to + " 1", OPERATORS + " ;");
            behind(to + " b", OPERATORS + " ; [");
            behind(to + " ( b", OPERATORS + " )");
            behind(to + " not b", OPERATORS + " ;");
            behind(to + " - b", OPERATORS + " ;");
            behind(to + " 1 + b", OPERATORS + " ;");
            behind(to + " b + 1", OPERATORS + " ;");
            behind(to + " b [", SUM);
            behind(to + " b [ 1", OPERATORS + " ]");
            behind(to + " b [ 1 ]", ";");
            for (String exchange : "swap add cas".split(" ")) {
                String with = to + " " + exchange;
                behind(with, "x");
                behind(with + " b", "[ ,");
                behind(with + " b [", SUM);
                behind(with + " b [ 1", OPERATORS + " ]");
                behind(with + " b [ 1 ]", ",");
                behind(with + " b ,", SUM);
                behind(with + " b , 1", OPERATORS + (exchange.equals("cas") ? " ," : " ;"));
                behind(with + " b , c", OPERATORS + (exchange.equals("cas") ? " ," : " ;"));
            }
            behind(to + " cas b , 1 ,", SUM);
            behind(to + " cas b , 1 , 1", OPERATORS + " ;");
        }
    }

    private static void ifs() {
        Checks.says("IF: if E BLOCK [else BLOCK | else IF]");
        String t = "thread t { ";
        behind(t + "if", SUM);
        behind(t + "if 1", OPERATORS + " {");
        behind(t + "if 1 {", STATEMENT);
        behind(t + "if 1 { }", STATEMENT + " else");
        behind(t + "if 1 { } else", "{ if");
        behind(t + "if 1 { } else {", STATEMENT);
        behind(t + "if 1 { } else { }", STATEMENT);
        behind(t + "if 1 { } else if", SUM);
        behind(t + "if 1 { } else if 1", OPERATORS + " {");
        behind(t + "if 1 { } else if 1 { }", STATEMENT + " else");
        behind(t + "if 1 { } else if 1 { } else { }", STATEMENT);
        behind(t + "if 1 { if 1 { } }", STATEMENT + " else");
        behind(t + "if 1 { } pause ;", STATEMENT);
    }

    private static void wholeText() {
        Checks.says("2 what is no beginning of any text of part 2 (at that TOKEN, or the end, behind the last byte)");
        Checks.fault("cell @", 2);
        Checks.fault("cell a // and so on\n @", 2);
        Checks.fault("thread t { \n\n@", 2);
        Checks.fault("thread t { } @}", 2);
        Checks.fault("thread t { @{ } }", 2);
        Checks.fault("thread t { @; }", 2);
        Checks.fault("thread t { if 1 { @", 2);
        Checks.fault("thread t { pause; } @;", 2);
        Checks.fault("lock a; @;", 2);
        Checks.fault("cell a@, b;", 2);
    }

    private static String within(int many, String begin, String inner, String end) {
        return "thread t { " + begin.repeat(many) + inner + end.repeat(many) + " } lock l;";
    }

    private static void nestedStatements() {
        Checks.says("NESTED are S and E within one another: at most 16 ... of what is NESTED the first TOKEN of the 17th");
        for (String begin : new String[] {"lock l { ", "while 0 { ", "if 0 { ", "if 0 { } else { "}) {
            Checks.good(within(15, begin, "end; pause; take l; ", "} "), 1);
            Checks.fault("thread t { " + begin.repeat(15) + "lock l { @end; ", 3);
            Checks.fault("thread t { " + begin.repeat(15) + "lock l { @lock l { } ", 3);
            Checks.fault("thread t { " + begin.repeat(15) + "lock l { @a = 1; ", 3);
            Checks.fault("thread t { " + begin.repeat(15) + "lock l { @a[1] = 1; ", 3);
            Checks.fault("thread t { " + begin.repeat(15) + "lock l { @let a = 1; ", 3);
            Checks.fault("thread t { " + begin.repeat(15) + "lock l { @if 1 { } ", 3);
        }
        Checks.good(within(16, "lock l { ", "", "} "), 1);
        Checks.fault("thread t { " + "while 0 { ".repeat(15) + "while @0 { ", 3);
        Checks.fault("thread t { " + "if 0 { ".repeat(15) + "if @(0) { ", 3);
        Checks.fault("thread t { " + "lock l { ".repeat(16) + "@pause; ", 3);
        // what stands behind a block is not within it
        Checks.good(within(15, "lock l { ", "end; ", "} pause; "), 1);
        Checks.good("thread t { " + "lock l { } while 0 { } if 0 { } else { } ".repeat(17) + "} lock l;", 1);
        // a thread's BLOCK is no S
        Checks.good("thread t { pause; }", 1);
    }

    private static String chain(int elses) {
        return "thread t { if 0 { } " + "else if 0 { } ".repeat(elses);
    }

    private static void nestedElses() {
        Checks.says("an else's IF is an S within the IF");
        Checks.good(chain(14) + "}", 1);
        Checks.fault(chain(14) + "else if @0 { } }", 3);
        Checks.good(chain(14) + "else { end; } }", 1);
        Checks.good(chain(14) + "else { lock l { } } } lock l;", 1);
        Checks.fault(chain(14) + "else { lock l { @end; } } }", 3);
        Checks.good(chain(13) + "else if 0 { end; } }", 1);
        Checks.fault(chain(13) + "else if 0 { lock l { @end; } } }", 3);
        Checks.good(chain(13) + "else { lock l { end; } } } lock l;", 1);
        Checks.good(chain(13) + "else { assert 1; } }", 1);
        Checks.fault(chain(13) + "else { lock l { assert @1; } } }", 3);
        // a new if behind the chain is not within it
        Checks.good(chain(14) + "if 0 { } else if 0 { } }", 1);
    }

    private static void nestedSums() {
        Checks.says("an operand's not, - is an E within an E, each operator's right side, too");
        for (String claim : new String[] {"always ", "finally "}) {
            Checks.good(claim + "(".repeat(15) + "1" + ")".repeat(15) + ";", 0);
            Checks.fault(claim + "(".repeat(15) + "(@1" + ")".repeat(16) + ";", 3);
            Checks.fault(claim + "(".repeat(15) + "(@a" + ")".repeat(16) + ";", 3);
            Checks.fault(claim + "(".repeat(15) + "(@(1" + ")".repeat(17) + ";", 3);
            for (String before : new String[] {"not ", "- ", "not - ", "- not "}) {
                int each = before.equals("not ") || before.equals("- ") ? 1 : 2;
                String most = before.repeat(15 / each) + (each == 2 ? "- " : "");
                Checks.good(claim + most + "1;", 0);
                Checks.fault(claim + most + "@- 1;", 3);
                Checks.fault(claim + most + "@not 1;", 3);
                Checks.fault(claim + most + "(@1);", 3);
                Checks.fault(claim + most + "(@not 1);", 3);
                Checks.good(claim + most + "1 + 1;", 0);
            }
        }
        Checks.says("the first TOKEN of the 17th: an operator's right side");
        for (String operator : OPERATORS.split(" ")) {
            Checks.good("always " + "(".repeat(14) + "1 " + operator + " 1" + ")".repeat(14) + ";", 0);
            Checks.fault("always " + "(".repeat(15) + "1 " + operator + " @1" + ")".repeat(15) + ";", 3);
            Checks.fault("always " + "(".repeat(14) + "1 " + operator + " @- 1" + ")".repeat(14) + ";", 3);
            Checks.fault("always " + "(".repeat(14) + "1 " + operator + " (@1)" + ")".repeat(14) + ";", 3);
            Checks.good("always " + "(".repeat(14) + "(1) " + operator + " 1" + ")".repeat(14) + ";", 0);
            Checks.good("always " + "(".repeat(14) + "- 1 " + operator + " 1" + ")".repeat(14) + ";", 0);
        }
    }

    /** Each S that has an E: 14 deep it may stand, 15 deep its E is the 17th. */
    private static void sumsOfStatements() {
        Checks.says("NESTED are S and E within one another");
        String[] marked = {"assert @1;", "back @1;", "call 0, @1;", "let a = @1;", "let a = @self;", "let a = @c;", "let a = r[@1];", "let a = swap c, @1;",
            "let a = add c, @1;", "let a = cas c, @1, 2;", "let a = swap r[@0], 1;", "let a = cas r[@0], 1, 1;", "c = @1;", "c = @- 1;", "r[@0] = 1;",
            "if @1 { }", "while @0 { }", "if @(0) { }", "let a = @(1);"};
        String defs = "cell c; cell r[2]; lock l; thread t { ";
        for (String m : marked) {
            boolean deeper = m.contains("(") || m.contains("- ");
            String plain = m.replace("@", "");
            Checks.good(defs + "lock l { ".repeat(deeper ? 13 : 14) + plain + " }".repeat(deeper ? 14 : 15), 1);
            Checks.fault(defs + "lock l { ".repeat(15) + m + " }".repeat(16), 3);
        }
        // behind the first E each other one is as deep as it
        Checks.good(defs + "lock l { ".repeat(14) + "let a = cas r[1], 1, 1; r[0] = 1; call 0, 1; " + " }".repeat(15), 1);
        Checks.fault(defs + "lock l { ".repeat(14) + "let a = cas r[1], 1, (@1); ", 3);
        Checks.fault(defs + "lock l { ".repeat(14) + "let a = cas r[1], 1 + @1, 1; ", 3);
        Checks.fault(defs + "lock l { ".repeat(14) + "r[1 + @1] = 1; ", 3);
        Checks.fault(defs + "lock l { ".repeat(14) + "r[1] = @- 1; ", 3);
        Checks.fault(defs + "lock l { ".repeat(14) + "call 0, 1 or @1; ", 3);
    }

    private static void operators() {
        Checks.says("of equal operators each stands beside the others");
        String[] strengths = {"or or or", "and and and", "== != <", "<= > >=", "+ - +", "* / mod"};
        for (String s : strengths) {
            String[] three = s.split(" ");
            String row = "1 " + three[0] + " 1 " + three[1] + " 1 " + three[2] + " 1";
            Checks.good("always " + "(".repeat(14) + row + ")".repeat(14) + ";", 0);
            Checks.good("always 1" + (" " + three[0] + " 1 " + three[1] + " 1 " + three[2] + " 1").repeat(30) + ";", 0);
        }
        // a stronger one is within the right side of a weaker one before it, not of one behind it
        String[] rising = {"or", "and", "<", "+", "*"};
        for (int i = 0; i < rising.length; i++) {
            for (int j = 0; j < rising.length; j++) {
                String inner = "1 " + rising[i] + " 1 " + rising[j] + " ";
                if (i < j) {
                    Checks.good("always " + "(".repeat(13) + inner + "1" + ")".repeat(13) + ";", 0);
                    Checks.fault("always " + "(".repeat(14) + inner + "@1" + ")".repeat(14) + ";", 3);
                } else {
                    Checks.good("always " + "(".repeat(14) + inner + "1" + ")".repeat(14) + ";", 0);
                }
            }
        }
        Checks.good("always " + "(".repeat(10) + "1 or 1 and 1 == 1 + 1 * 1" + ")".repeat(10) + ";", 0);
        Checks.fault("always " + "(".repeat(11) + "1 or 1 and 1 == 1 + 1 * @1" + ")".repeat(11) + ";", 3);
        Checks.good("always " + "(".repeat(14) + "1 * 1 + 1 == 1 and 1 or 1" + ")".repeat(14) + ";", 0);
        Checks.good("always " + "(".repeat(13) + "1 + 1 * 1 + 1 * 1 - 1 / 1" + ")".repeat(13) + ";", 0);
        Checks.good("always " + "(".repeat(10) + "1 or 1 and 1 == 1 + 1 * 1 or 1 and 1 == 1 + 1 * 1" + ")".repeat(10) + ";", 0);
    }

    private static void nestedOrForm() {
        Checks.says("Of these the one with the least place, of one place the least number");
        Checks.fault("always " + "(".repeat(16) + "@)", 2);
        Checks.fault("always " + "(".repeat(16) + "@self", 2);
        Checks.fault("always " + "(".repeat(16) + "@!", 1);
        Checks.fault("always " + "(".repeat(16) + "@", 2);
        Checks.fault("always " + "(".repeat(15) + "1 + @;", 2);
        Checks.fault("thread t { " + "lock l { ".repeat(16) + "@else", 2);
        Checks.fault("thread t { " + "lock l { ".repeat(16) + "@?", 1);
        Checks.fault("thread t { " + "lock l { ".repeat(16) + "@", 2);
        Checks.fault("thread t { " + "lock l { ".repeat(15) + "assert @;", 2);
        Checks.fault("thread t { " + "lock l { ".repeat(15) + "let a = @$", 1);
        // the 17th stands before what else is wrong
        Checks.fault("always " + "(".repeat(16) + "@1 1", 3);
        Checks.fault("thread t { " + "lock l { ".repeat(16) + "@end end", 3);
        Checks.fault("always " + "(".repeat(16) + "@1 $", 3);
        // and behind it
        Checks.fault("always " + "(".repeat(10) + "@, " + "(".repeat(10) + "1;", 2);
    }
}

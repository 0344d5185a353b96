/** The boundary cases of part 1 of the document (the text and its tokens) and of promises 1 to 3, sentence by sentence. */
public final class TokenEdgeTest {
    private static final String WORDS = "add always and assert back call cas cell else end fence finally give idle if join let lock "
            + "mod not or pause self start sure swap take thread wait wake wakeall while";

    public static void main(String[] args) {
        emptyText();
        howManyBytes();
        fullText();
        lowestBytes();
        whatFeedForgets();
        wiping();
        lines();
        blanks();
        remarks();
        words();
        names();
        wholes();
        signs();
        asLongAsCanBe();
        Checks.end();
    }

    private static ScheduleHouse blank(int many) {
        return Checks.fed(" ".repeat(many));
    }

    private static void emptyText() {
        Checks.says("An empty text, nothing compiled");
        Checks.due("wipe", new ScheduleHouse().wipe(), 0);
        Checks.due("the first byte", new ScheduleHouse().feed(1, 32), 1);
        Checks.due("no fault yet", new ScheduleHouse().fault(0), -1);
        Checks.due("no line yet", new ScheduleHouse().fault(1), -1);
        Checks.due("compile", new ScheduleHouse().compile(), 0);
        for (int what = 0; what < 5; what++) {
            Checks.due("count", new ScheduleHouse().count(what), 0);
        }
        Checks.noState("begin", () -> new ScheduleHouse().begin(0));
        Checks.noState("attempt", () -> new ScheduleHouse().attempt(0, 1));
        Checks.says("any number of DEFS");
        ScheduleHouse none = new ScheduleHouse();
        none.compile();
        Checks.due("no fault", none.fault(0), -1);
        Checks.due("a run of nothing", none.begin(1), 0);
        Checks.due("over", none.run(3), 1);
        Checks.due("not stuck", none.run(4), 0);
        Checks.due("one state", none.attempt(0, 1), 1);
        Checks.due("wholly", none.tried(0, 1), 0);
        Checks.due("one outcome", none.tried(0, 3), 1);
    }

    private static void howManyBytes() {
        Checks.says("IllegalArgumentException: n is not 1 .. 8");
        for (int n : new int[] {0, 9, -1, -8, 10, 256, Integer.MAX_VALUE, Integer.MIN_VALUE}) {
            ScheduleHouse x = Checks.compiled("lock a;");
            Checks.badArgument("feed(" + n + ")", () -> x.feed(n, 0x2020202020202020L));
            Checks.due("compiled still", x.count(1), 1);
            Checks.due("bytes still", x.wipe(), 7);
        }
        for (int n = 1; n <= 8; n++) {
            Checks.due("feed(" + n + ")", new ScheduleHouse().feed(n, 0x2020202020202020L), n);
        }
        Checks.says("or it would have more than 3000");
        for (int n = 1; n <= 8; n++) {
            int many = n;
            ScheduleHouse full = blank(3000 - n);
            Checks.due("to 3000", full.feed(n, 0x2020202020202020L), 3000);
            ScheduleHouse over = blank(3001 - n);
            over.compile();
            over.begin(0);
            Checks.badArgument("to 3001", () -> over.feed(many, 0x2020202020202020L));
            Checks.due("the run is there still", over.choices(), 0);
            Checks.due("so many as before", over.wipe(), 3001 - n);
        }
        ScheduleHouse last = blank(2999);
        Checks.badArgument("two more", () -> last.feed(2, 0x2020));
        Checks.due("but one", last.feed(1, 32), 3000);
        Checks.badArgument("not one more", () -> last.feed(1, 32));
        Checks.due("wipe of a full one", last.wipe(), 3000);
        Checks.due("room again", last.feed(8, 0x2020202020202020L), 8);
    }

    private static void fullText() {
        Checks.says("THE TEXT has at most 3000 bytes");
        ScheduleHouse x = Checks.fed(" ".repeat(2993) + "lock a;");
        Checks.due("its last bytes are read", x.compile(), 0);
        Checks.due("its last bytes are read", x.count(1), 1);
        Checks.fault(" ".repeat(2999) + "@;", 2);
        Checks.fault(" ".repeat(2999) + "@!", 1);
        Checks.fault("\n".repeat(2996) + "cell@", 2);
        Checks.fault("\n".repeat(2998) + "@if", 2);
        Checks.good("//" + "a".repeat(2998), 0);
        Checks.good("//" + "\n".repeat(2998), 0);
    }

    private static void lowestBytes() {
        Checks.says("The n lowest bytes of a long, the lowest first, come behind THE TEXT");
        ScheduleHouse x = new ScheduleHouse();
        x.feed(8, 0x3b61206b636f6c20L);
        Checks.due("' lock a;'", x.compile(), 0);
        Checks.due("' lock a;'", x.count(1), 1);
        ScheduleHouse y = new ScheduleHouse();
        y.feed(1, 0x3b3b3b3b3b3b3b6cL);
        y.feed(4, 0xffffff206b636fL);
        Checks.due("five bytes", y.feed(2, 0x7f7f7f7f7f7f3b62L), 7);
        Checks.due("'lock b;'", y.compile(), 0);
        Checks.due("'lock b;'", y.count(1), 1);
        ScheduleHouse high = new ScheduleHouse();
        high.feed(8, 0xff2020202020202fL);
        Checks.due("byte 255 is the eighth", high.compile(), -2);
        high.wipe();
        high.feed(8, 0xff20202020202020L);
        Checks.due("byte 255 is the eighth", high.compile(), -1);
        Checks.due("its place", high.fault(0), 7);
    }

    private static ScheduleHouse busy() {
        ScheduleHouse x = Checks.begun("cell a; lock l; thread t { a = 1; } always 1; finally 1;", 1);
        x.go(0);
        x.attempt(0, 9);
        x.attempt(1, 9);
        return x;
    }

    private static void nothingLeft(ScheduleHouse x) {
        for (int what = 0; what < 5; what++) {
            Checks.due("count(" + what + ")", x.count(what), 0);
        }
        Checks.noState("no run", x::choices);
        Checks.noState("no run", () -> x.run(0));
        for (int way = 0; way < 2; way++) {
            int w = way;
            for (int what = 0; what < 6; what++) {
                Checks.due("tried", x.tried(way, what), 0);
            }
            Checks.badIndex("no outcome", () -> x.outcome(w, 0, 0));
            Checks.badIndex("no cell", () -> x.common(w, 0));
            Checks.due("no ring", x.ring(way), 0);
            Checks.noState("nothing to show", () -> x.show(w, 10));
            Checks.noState("nothing to begin", () -> x.begin(w));
            Checks.noState("nothing to try", () -> x.attempt(w, 9));
        }
        Checks.due("alike", x.alike(), -1);
    }

    private static void whatFeedForgets() {
        Checks.says("(what was compiled, a run, what was tried are no more then)");
        ScheduleHouse x = busy();
        x.feed(1, 32);
        nothingLeft(x);
        Checks.due("compile again", x.compile(), 1);
        Checks.noState("No run, nothing tried", x::choices);
        Checks.due("No run, nothing tried", x.tried(0, 0), 0);
        Checks.due("No run, nothing tried", x.tried(1, 0), 0);
        Checks.due("begin", x.begin(0), 1);
        Checks.due("nothing done", x.run(1), 0);
    }

    private static void wiping() {
        Checks.says("THE TEXT is empty then, as behind feed() nothing is compiled: how many bytes it had");
        ScheduleHouse x = busy();
        Checks.due("wipe", x.wipe(), "cell a; lock l; thread t { a = 1; } always 1; finally 1;".length());
        nothingLeft(x);
        Checks.due("wipe", x.wipe(), 0);
        Checks.due("compile", x.compile(), 0);
        Checks.due("no cells", x.count(0), 0);
        Checks.due("feed", x.feed(2, 0x2f2f), 2);
        Checks.due("what stood behind it is gone", x.compile(), 0);
        Checks.due("wipe", x.wipe(), 2);
    }

    private static void lines() {
        Checks.says("THE LINE of a place is 1 and how many bytes 10 stand before it");
        String[][] texts = {{"!", "1"}, {"\n!", "2"}, {"\r!", "1"}, {"\r\n\r\n!", "3"}, {"// a\n// b\n!", "3"}, {"cell\n", "2"}, {"cell // \n\n // x", "3"},
            {"cell a;\n lock !\n\n\n", "2"}, {"\n\n\ncell", "4"}, {"cell a\n!", "2"}, {"cell a!\n\n", "1"}};
        for (String[] t : texts) {
            ScheduleHouse x = Checks.fed(t[0]);
            x.compile();
            Checks.due("line of the fault of " + t[0].replace("\n", "\\n"), x.fault(1), Integer.parseInt(t[1]));
        }
    }

    private static void blanks() {
        Checks.says("Between TOKENS there may be bytes 32, 9, 13, 10, and REMARKS");
        for (int b = 0; b < 256; b++) {
            boolean isBlank = b == 32 || b == 9 || b == 13 || b == 10;
            boolean isSign = "=<>+-*/(){}[];,".indexOf(b) >= 0;
            boolean isLetter = b >= 'a' && b <= 'z' || b >= 'A' && b <= 'Z' || b >= '0' && b <= '9';
            String between = String.valueOf((char) b);
            if (isBlank) {
                Checks.good("lock" + between + "a" + between + ";" + between, 0);
            } else if (isSign) {
                Checks.fault("lock @" + between + " a;", 2);
            } else if (isLetter) {
                Checks.fault("@lock" + between + "a;", 2);
            } else {
                Checks.fault("lock @" + between + "a;", 1);
                Checks.fault("lock a@" + between + ";", 1);
            }
        }
        Checks.good("lock a;cell b[2]=-3;thread t{let x=b[1];x=x+1*(2);b[x]=x;}", 1);
        Checks.good("\n\t\r cell\n\t\r a\n\t\r [\n\t\r 2\n\t\r ]\n\t\r =\n\t\r -\n\t\r 1\n\t\r ;\n\t\r ", 0);
        Checks.fault("@locka;", 2);
    }

    private static void remarks() {
        Checks.says("// and all up to the next byte 10, or the end");
        Checks.good("//", 0);
        Checks.good("//\n", 0);
        Checks.good("///", 0);
        Checks.good("// ! ? \u0000 \u00ff cell cell", 0);
        Checks.good("lock a;//\nlock b;//x", 0);
        Checks.good("lock//\r still a remark\na// // \n;", 0);
        Checks.fault("// a\n@!", 1);
        Checks.good("// a\r!", 0);
        Checks.fault("//\n@!", 1);
        Checks.fault("// a // b\n@;", 2);
        Checks.fault("//\n//\n@/", 2);
        Checks.fault("@/ /", 2);
        Checks.fault("@/\n/", 2);
        Checks.fault("lock a @/", 2);
        Checks.fault("lock lo//\n@ng;", 2);
        ScheduleHouse x = Checks.fed("// lock a;");
        x.compile();
        Checks.due("what it says is not read", x.count(1), 0);
        Checks.good("thread t { let a = 4 // 2;\n / 2; }", 1);
        Checks.fault("thread t { let a = 4 // 2; }@", 2);
    }

    private static void words() {
        Checks.says("WORDS: ...; NAMES: ... no WORD");
        for (String word : WORDS.split(" ")) {
            Checks.fault("lock @" + word + ";", 2);
            Checks.fault("thread t { let @" + word + " = 1; }", 2);
            Checks.good("lock " + word + "1;", 0);
            Checks.good("lock " + word + "s;", 0);
            Checks.good("lock " + Character.toUpperCase(word.charAt(0)) + word.substring(1) + ";", 0);
            Checks.good("lock " + word.substring(0, word.length() - 1) + "Q;", 0);
        }
        Checks.good("lock wakeal; lock wakealls; lock wak; lock finall;", 0);
        Checks.fault("@lockb;", 2);
        Checks.fault("thread t { wakealll@; }", 2);
    }

    private static void names() {
        Checks.says("NAMES: a letter (a .. z, A .. Z), then letters and digits, 12 at most (a longer row of these is no TOKEN)");
        Checks.good("lock a;", 0);
        Checks.good("lock z; lock A; lock Z; lock a0; lock z9;", 0);
        Checks.good("lock abcdefghijk;", 0);
        Checks.good("lock abcdefghijkl;", 0);
        Checks.fault("lock @abcdefghijklm;", 1);
        Checks.good("lock a23456789012;", 0);
        Checks.fault("lock @a234567890123;", 1);
        Checks.fault("lock @" + "a".repeat(200) + ";", 1);
        Checks.fault("@threadthreada b", 1);
        for (char c : new char[] {'@', '[', '`', '{', '_', '$', '\u00e9'}) {
            boolean sign = c == '[' || c == '{';
            Checks.faultAt("lock " + c + "a;", sign ? 2 : 1, 5);
            Checks.faultAt("lock a" + c + ";", sign ? 2 : 1, 6);
        }
        Checks.good("lock abcdefghijkl; lock abcdefghijkm; lock Abcdefghijkl; lock abcdefghijk;", 0);
        Checks.fault("lock abcdefghijkl; lock @abcdefghijkl;", 4);
        Checks.good("lock a; lock A; lock aa;", 0);
        // names that are alike in their sums
        Checks.good("lock Aa; lock BB; thread t { take Aa; take BB; }", 1);
        ScheduleHouse x = Checks.begun("lock Aa; lock BB; thread t { take BB; }", 0);
        Checks.due("BB is not Aa", x.choice(0, 3), 1);
    }

    private static void wholes() {
        Checks.says("WHOLES: 1 to 9 digits; no letter, digit stands right behind");
        Checks.good("cell a = 0; cell b = 9; cell c = 999999999; cell d = 000000000;", 0);
        Checks.fault("cell a = @0000000000;", 1);
        Checks.fault("cell a = @1234567890;", 1);
        Checks.fault("cell a = @" + "1".repeat(300) + ";", 1);
        Checks.fault("cell a = @1a;", 1);
        Checks.fault("cell a = @1Z;", 1);
        Checks.fault("cell a = @123456789x;", 1);
        Checks.fault("cell a = @1if;", 1);
        Checks.fault("cell a = 1@_;", 1);
        Checks.fault("cell a = 1@.5;", 1);
        Checks.fault("cell a = 12 @3;", 2);
        ScheduleHouse x = Checks.begun("cell a = 999999999; cell b = -999999999; cell c = 012; cell d = - 0; cell e = 000000007;", 0);
        int[] want = {999999999, -999999999, 12, 0, 7};
        for (int c = 0; c < want.length; c++) {
            Checks.due("cell " + c, x.cell(c), want[c]);
        }
        // '/' and ':' stand beside the digits
        Checks.fault("cell a = @/1;", 2);
        Checks.fault("cell a = @:1;", 1);
        Checks.good("thread t { let a = 10/9; }", 1);
    }

    private static void signs() {
        Checks.says("SIGNS: = == != < <= > >= + - * / ( ) { } [ ] ; ,");
        for (String sign : "== != < <= > >= + - * / and or mod".split(" ")) {
            Checks.good("thread t { let a = 4 " + sign + " 3; }", 1);
        }
        for (String sign : "= == != < <= > >= + - * / ( ) { } [ ] ; ,".split(" ")) {
            Checks.fault("lock @" + sign + " a;", 2);
        }
        Checks.fault("thread t { let a = 4 @! 3; }", 1);
        Checks.fault("thread t { let a = @!3; }", 1);
        Checks.fault("thread t { let a = 4 @! = 3; }", 1);
        Checks.fault("thread t { let a = 4@!", 1);
        for (String none : new String[] {"&", "|", "%", "^", "~", "?", ":", ".", "#", "\"", "'", "\\", "@"}) {
            Checks.faultAt("lock a; " + none, 1, 8);
        }
    }

    private static void asLongAsCanBe() {
        Checks.says("TOKENS, each as long as can be");
        Checks.fault("thread t { let a = 1 >=@= 2; }", 2);
        Checks.fault("thread t { let a = 1 ==@= 2; }", 2);
        Checks.fault("thread t { let a = 1 !=@= 2; }", 2);
        Checks.fault("thread t { let a = 1 <@> 2; }", 2);
        Checks.fault("thread t { let a = 1 > @= 2; }", 2);
        Checks.fault("thread t { let a = 1 < @= 2; }", 2);
        Checks.fault("thread t { let a @== 1; }", 2);
        Checks.good("thread t { let a=-1; let b=a<-1; let c=a==-b; let d=1--1; }", 1);
        Checks.fault("cell a@== 1;", 2);
        Checks.fault("@cells a;", 2);
        Checks.fault("thread t { ifa @{ } }", 2);
    }
}

// Terms, 1 TEXTS: the tape, the tokens and the grammar. Each test says the sentence of the document that it holds.
public final class TokensTest extends Check {
    private static final String[] WORDS = ("var row sema bolt irpt in out proc task main on any do return if else while make same lose ask give"
        + " reserve free enter leave start go end hold prior prevent induce take put pull enable disable log at after all until when size time"
        + " state").split(" ");
    private static final String SIGNS = "(){}[],;=<>+-*/%";
    private static final String HEAD = "var a;row r;sema s 1;bolt b;irpt i;in n;out o;proc q(){}proc p(x,y,z){}task u 1{}";

    public static void main(String[] args) throws IllegalAccessException {
        all(TokensTest.class);
    }

    /** Each token in its turn is one that can't stand there, or the text ends ahead of it. */
    private static void eachToken(String head, String tokens, String tail, String wrong) {
        fits(head + tokens + tail);
        String[] parts = tokens.split(" ");
        StringBuilder before = new StringBuilder(head);
        for (int i = 0; i < parts.length; i++) {
            fault(2, before.length(), before + wrong + tokens.substring(before.length() - head.length() + parts[i].length()) + tail);
            if (i > 0) {
                fault(2, before.length(), before.toString());
            }
            before.append(parts[i]).append(' ');
        }
    }

    private static void declaration(String tokens) {
        eachToken("row first;", tokens, "", "until");
    }

    private static void statement(String tokens) {
        eachToken(HEAD + "task t 1{", tokens, "}", "main");
    }

    private static void expression(String tokens) {
        eachToken(HEAD + "task t 1{log ", tokens, ";}", "main");
    }

    private static House blanksAnd(String last) {
        House h = new House();
        for (int i = 1; i <= 499; i++) {
            due(8L * i, h.feed(0x2020202020202020L, 8));
        }
        due(4000, h.feed(name(last), 8));
        return h;
    }

    @Holds("Terms: THE TAPE has 4000 bytes.")
    private static void tapeIsReadToItsLastByte() {
        House h = blanksAnd("row abc;");
        due(FULL, h.feed(' ', 1));
        due(0, h.module());
        due(0, h.find(1, name("abc")));
        h = blanksAnd("row abc&");
        due(-11, h.module());
        due(3999, h.place());
        for (String last : new String[] {"var abcd", "var a=12"}) {
            h = blanksAnd(last);
            due(-12, h.module());
            due(4000, h.place());
        }
    }

    @Holds("Terms: THE TAPE has 4000 bytes.")
    private static void tapeMayEndInAnyToken() {
        String[] ends = {"task t 1{log abc", "task t 1{log r[a", "task t 1 {abcdef", "task t 1 {log (1", "task t 1 {log 1+", "task t 1 { if 1{ "};
        for (String end : ends) {
            fault(2, 4000, times(3984, " ") + end);
        }
    }

    @Holds("Terms: TOKENS, each as long as can be")
    private static void tokensAreAsLongAsCanBe() {
        fits("task t 1main{}");
        fits("var iff;task t 1{iff=1;log iff+size3-time4;}var size3;var time4;");
        fault(2, "@vara;");
        fault(2, "var a @b;");
        fault(2, "var a=12 @3;");
        fault(2, "task t 1{log1@;}");
        fault(2, "task t 1{log 1>@=2;}");
        fits("task t 1{log 1>-2;log 3=-4;log 5<--6;}");
        House h = begun("var ab=123;var c=4;task t 1 main{log ab-c;}");
        due(0, h.find(0, name("ab")));
        due(NONE, h.find(0, name("a")));
        due(123, h.value(0));
    }

    @Holds("Terms: blanks (10, 32) between as one likes")
    private static void blanksAre10And32Alone() {
        for (int c = 0; c < 256; c++) {
            String text = "row r" + (char) c + ";";
            if (c == 10 || c == 32 || c >= 'a' && c <= 'z' || c >= '0' && c <= '9') {
                fits(text);
            } else if (c == ';') {
                fault(2, 6, text);
            } else {
                fault(SIGNS.indexOf(c) >= 0 ? 2 : 1, 5, text);
            }
        }
    }

    @Holds("Terms: blanks (10, 32) between as one likes")
    private static void blanksStandAheadBetweenAndBehind() {
        fits("task t 1 main{on 1{}if 1{log(1+2)*3;}else{log r[0];}}row r;var a=-5;");
        fits(" \n task\n\nt  1\n main \n{ on 1 { } if\n1 { log ( 1\n+\n2 ) * 3 ; } else { log r \n [ 0 ] ; } } row\nr ; var a = \n - 5 ; \n ");
        fits("\n");
        fits("  ");
        fault(2, "@ro w r;");
        fault(2, "row r \n@q;");
        fault(2, "task t 1 @ma in{}");
        House h = begun("var a=1;row r;task t 1 main{make r\n2;r \n [\n1 ]\n=\n7;log r \n[ 1];}");
        h.run(3);
        logs("blanks ahead of [", h, 7);
    }

    @Holds("Terms: NAMES (a letter a .. z, then letters and figures; 8 at most)")
    private static void namesHaveLettersAndFigures() {
        for (char c = 'a'; c <= 'z'; c++) {
            fits("var " + c + ";");
            fits("var q" + c + "q;");
        }
        for (char c = '0'; c <= '9'; c++) {
            fits("var a" + c + ";");
            fault(2, "var @" + c + "a;");
        }
        fault(1, "var @A;");
        fault(1, "var @Z;");
        fault(1, "var a@B;");
        fault(1, "var a@_b;");
        fault(1, "var @`;");
        fault(1, "var @|;");
    }

    @Holds("Terms: NAMES (a letter a .. z, then letters and figures; 8 at most)")
    private static void namesHave8AtMost() {
        House h = read("var abcdefgh;var abcdefgi;row a1234567;");
        due(0, h.find(0, name("abcdefgh")));
        due(1, h.find(0, name("abcdefgi")));
        due(0, h.find(1, name("a1234567")));
        fault(1, "var @abcdefghi;");
        fault(1, "var @a12345678;");
        fault(1, "var @" + times(300, "a") + ";");
        fault(1, "@disabled9 x;");
    }

    @Holds("Terms: NUMBERS (figures, 9 at most)")
    private static void numbersHave9FiguresAtMost() {
        House h = begun("var a=123456789;var b=-987654321;var c=000000012;var d=0;var e=999999999;");
        due(123456789, h.value(0));
        due(-987654321, h.value(1));
        due(12, h.value(2));
        due(0, h.value(3));
        due(999999999, h.value(4));
        fault(1, "var a=@1234567890;");
        fault(1, "var a=@0000000001;");
        fault(1, "var a=-@4294967297;");
        fault(1, "task t 1{log @10000000000000000001;}");
    }

    @Holds("Terms: the SIGNS ( ) { } [ ] , ; = < > + - * / %.")
    private static void eachSignIsAToken() {
        fits("row r;proc p(x,y){r[1]=(x<y)+(x>y)-x*y/2%3;}");
        for (int i = 0; i < SIGNS.length(); i++) {
            fault(2, "row @" + SIGNS.charAt(i) + ";");
        }
        for (String none : new String[] {"!", "\"", "#", "$", "&", "'", ".", ":", "?", "@", "\\", "^", "_", "|", "~", "\t", "\r", "\0", "\u007f", "\u0080", "\u00a0", "\u00ff"}) {
            fault(1, 4, "row " + none + ";");
        }
    }

    @Holds("Terms: The NAMES that stand small here are WORDS, and none of these.")
    private static void wordsAreNoNames() {
        for (String word : WORDS) {
            fault(2, "var @" + word + ";");
            fault(2, "proc p(@" + word + "){}");
            fault(2, "task t 1{log size @" + word + ";}");
            fits("var " + word.substring(0, word.length() - 1) + ";");
            if (word.length() < 8) {
                fits("var " + word + "x;var " + word + "1;");
            }
        }
    }

    @Holds("Terms: { } any number, [ ] or not, | or; \"{\" and so on are SIGNS.")
    private static void noneOneAndMany() {
        fits("");
        fits("row a;");
        fits("row a;row b;row c;");
        fits("proc p(){}proc q(a){}proc r(a,b){}proc s(a,b,c){}");
        fits("sema s 1;task t 1{ask s;ask s,s;ask s,s,s;}");
        fits("task t 1{}task u 1 main{}task v 1{log 1;}task w 1{on 1{}on 2{}log 1;log 2;}");
        fault(2, "@{row a;}");
        fault(2, "task t 1 @[main]{}");
    }

    @Holds("Terms: MODULE: { DECL }")
    private static void moduleHasDeclarationsAlone() {
        fits("task k 1{}proc h(){}out g;in f;irpt e;bolt d;sema c 3;row b;var a;");
        fits("var a;row b;sema c 3;bolt d;irpt e;in f;out g;proc h(){}task k 1{}");
        for (int i = 0; i < WORDS.length; i++) {
            fault(2, i < 9 ? "row r;" + WORDS[i] + "@" : "row r;@" + WORDS[i]);
        }
        for (int i = 0; i < SIGNS.length(); i++) {
            fault(2, "row r;@" + SIGNS.charAt(i));
        }
        fault(2, "row r;@5");
        fault(2, "row r;@r");
    }

    @Holds("Terms: DECL: var NAME [ = [-] NUMBER ] ;")
    private static void declarationOfVar() {
        declaration("var a ;");
        declaration("var a = 5 ;");
        declaration("var a = - 5 ;");
        fault(2, "var a = - @- 5;");
        fault(2, "var a = @+ 5;");
        fault(2, "var a @5;");
        fault(2, "var a = 5 @+ 1;");
        fault(2, "var b;var a = @b;");
    }

    @Holds("Terms: | sema NAME NUMBER ;")
    private static void declarationOfSema() {
        declaration("sema a 5 ;");
        fault(2, "sema a@;");
        fault(2, "sema a @= 5;");
        fault(2, "sema a @-5;");
        fault(2, "sema a 5 @5;");
    }

    @Holds("Terms: row NAME ; | sema NAME NUMBER ; | bolt NAME ; | irpt NAME ; | in NAME ; | out NAME ;")
    private static void declarationsOfOneName() {
        declaration("row a ;");
        declaration("bolt a ;");
        declaration("irpt a ;");
        declaration("in a ;");
        declaration("out a ;");
        fault(2, "row a@,b;");
        fault(2, "bolt a @1;");
    }

    @Holds("Terms: | proc NAME ( [NAME {, NAME}] ) BLOCK | task NAME NUMBER [main] BLOCK")
    private static void declarationsWithBlocks() {
        declaration("proc p ( ) { }");
        declaration("proc p ( a ) { }");
        declaration("proc p ( a , b , c ) { }");
        declaration("task t 5 { }");
        declaration("task t 5 main { }");
        fault(2, "proc p(@,a){}");
        fault(2, "proc p(a,@){}");
        fault(2, "proc p(a @b){}");
        fault(2, "proc p@{}");
        fault(2, "proc p()@;");
        fault(2, "task t@{}");
        fault(2, "task t @main 5{}");
        fault(2, "task t 5 main @main{}");
        fault(2, "task t 5{}@;");
    }

    @Holds("Terms: BLOCK: \"{\" {on (NUMBER | any) BLOCK} {S} \"}\"")
    private static void blocks() {
        eachToken("task t 1", "{ }", "", "until");
        eachToken("task t 1", "{ on 1 { } on any { } on 2 { on 1 { } log 1 ; } log 2 ; log 3 ; }", "", "until");
        fault(2, "task t 1{log 1;@on 1{}}");
        fault(2, "task t 1{on @{}}");
        fault(2, "task t 1{on @x{}}");
        fault(2, "task t 1{on 1 @any{}}");
        fault(2, "task t 1{@{}}");
        fault(2, "task t 1{@;}");
        fault(2, "task t 1{}@}");
    }

    @Holds("Terms: S: NAME = E ; | NAME \"[\" E \"]\" = E ;")
    private static void statementsThatSet() {
        statement("a = 1 ;");
        statement("r [ 1 ] = 2 ;");
        fault(2, HEAD + "task t 1{a @< 1;}");
        fault(2, HEAD + "task t 1{a @1;}");
        fault(2, HEAD + "task t 1{a@;}");
        fault(2, HEAD + "task t 1{r[@]=1;}");
        fault(2, HEAD + "task t 1{r[1] @+ 1;}");
        fault(2, HEAD + "task t 1{r[1]@[1]=1;}");
        fault(2, HEAD + "task t 1{r[1]=@do q();}");
        fault(2, HEAD + "task t 1{@5=1;}");
    }

    @Holds("Terms: | [NAME =] do NAME ( [E {, E}] ) ; | return E ;")
    private static void statementsOfProcs() {
        statement("do q ( ) ;");
        statement("a = do q ( ) ;");
        statement("do p ( 1 , 2 , 3 ) ;");
        statement("a = do p ( 1 , 2 , 3 ) ;");
        eachToken(HEAD + "proc t(){", "return 1 ;", "}", "main");
        fault(2, HEAD + "task t 1{do q(@,);}");
        fault(2, HEAD + "task t 1{do p(1,2,@);}");
        fault(2, HEAD + "task t 1{do p(1 @2,3);}");
        fault(2, HEAD + "task t 1{a=do q()@+1;}");
        fault(2, HEAD + "task t 1{a=1+@do q();}");
        fault(2, "proc t(){return@;}");
    }

    @Holds("Terms: | if E BLOCK [else BLOCK] | while E BLOCK |")
    private static void statementsWithBlocks() {
        statement("if 1 { }");
        statement("if 1 { } else { }");
        statement("while 1 { }");
        fault(2, HEAD + "task t 1{if @{}}");
        fault(2, HEAD + "task t 1{if 1 @log 1;}");
        fault(2, HEAD + "task t 1{if 1{}else @if 1{}}");
        fault(2, HEAD + "task t 1{if 1{}else{}@else{}}");
        fault(2, HEAD + "task t 1{while 1{}@else{}}");
        fault(2, HEAD + "task t 1{while @{}}");
        fault(2, HEAD + "task t 1{if 1{}@;}");
        fault(2, HEAD + "task t 1{@else{}}");
    }

    @Holds("Terms: | make NAME E ; | same NAME NAME ; | lose NAME ; |")
    private static void statementsOfRows() {
        statement("make r 1 ;");
        statement("same r r ;");
        statement("lose r ;");
        fault(2, HEAD + "task t 1{make r@;}");
        fault(2, HEAD + "task t 1{make @1;}");
        fault(2, HEAD + "task t 1{same r@;}");
        fault(2, HEAD + "task t 1{same r@,r;}");
        fault(2, HEAD + "task t 1{lose r@,r;}");
    }

    @Holds("Terms: | ask NAME {, NAME} ; | give NAME {, NAME} ; | reserve NAME ; | free NAME ; | enter NAME ; | leave NAME ; |")
    private static void statementsOfGates() {
        statement("ask s ;");
        statement("ask s , s , s , s ;");
        statement("give s ;");
        statement("give s , s , s , s ;");
        statement("reserve b ;");
        statement("free b ;");
        statement("enter b ;");
        statement("leave b ;");
        fault(2, HEAD + "task t 1{ask@;}");
        fault(2, HEAD + "task t 1{ask s @s;}");
        fault(2, HEAD + "task t 1{ask s,@;}");
        fault(2, HEAD + "task t 1{give@;}");
        fault(2, HEAD + "task t 1{give s,@;}");
        fault(2, HEAD + "task t 1{reserve b@,b;}");
    }

    @Holds("Terms: | [WHEN] start NAME ; | [WHEN] go NAME ; | end [NAME] ; | hold NAME ; | prior NAME E ; | prevent NAME ; | induce E ; |")
    private static void statementsOfTasks() {
        statement("start u ;");
        statement("go u ;");
        statement("end ;");
        statement("end u ;");
        statement("hold u ;");
        statement("prior u 1 ;");
        statement("prevent u ;");
        statement("induce 1 ;");
        fault(2, HEAD + "task t 1{start@;}");
        fault(2, HEAD + "task t 1{go@;}");
        fault(2, HEAD + "task t 1{end @1;}");
        fault(2, HEAD + "task t 1{end u @u;}");
        fault(2, HEAD + "task t 1{hold@;}");
        fault(2, HEAD + "task t 1{prior u@;}");
        fault(2, HEAD + "task t 1{prevent@;}");
        fault(2, HEAD + "task t 1{induce@;}");
    }

    @Holds("Terms: | take NAME NAME ; | put NAME E ; | pull NAME ; | enable NAME ; | disable NAME ; | log E ;")
    private static void statementsOfStationsAndIrpts() {
        statement("take n a ;");
        statement("put o 1 ;");
        statement("pull i ;");
        statement("enable i ;");
        statement("disable i ;");
        statement("log 1 ;");
        fault(2, HEAD + "task t 1{take n@;}");
        fault(2, HEAD + "task t 1{take n @1;}");
        fault(2, HEAD + "task t 1{take n a@[1];}");
        fault(2, HEAD + "task t 1{put o@;}");
        fault(2, HEAD + "task t 1{pull@;}");
        fault(2, HEAD + "task t 1{log@;}");
        fault(2, HEAD + "task t 1{log 1@,2;}");
    }

    @Holds("Terms: WHEN: at E | after E | all E [until E] | when NAME")
    private static void schedules() {
        for (String act : new String[] {"start", "go"}) {
            statement("at 1 " + act + " u ;");
            statement("after 1 " + act + " u ;");
            statement("all 1 " + act + " u ;");
            statement("all 1 until 2 " + act + " u ;");
            statement("when i " + act + " u ;");
        }
        fault(2, HEAD + "task t 1{at @start u;}");
        fault(2, HEAD + "task t 1{at 1 @until 2 start u;}");
        fault(2, HEAD + "task t 1{after 1 @until 2 start u;}");
        fault(2, HEAD + "task t 1{when i @until 2 start u;}");
        fault(2, HEAD + "task t 1{all 1 until 2 @until 3 start u;}");
        fault(2, HEAD + "task t 1{when @1 start u;}");
        fault(2, HEAD + "task t 1{at 1 @end u;}");
        fault(2, HEAD + "task t 1{at 1 @hold u;}");
        fault(2, HEAD + "task t 1{at 1@;}");
        fault(2, HEAD + "task t 1{@until 1 start u;}");
    }

    @Holds("Terms: E: SUM [ (= | < | >) SUM ]")
    private static void comparisons() {
        expression("1 = 2");
        expression("1 < 2");
        expression("1 > 2");
        fault(2, "task t 1{log 1=2@=3;}");
        fault(2, "task t 1{log 1<2@>3;}");
        fault(2, "task t 1{log 1>2@<3;}");
        fault(2, "task t 1{log 1=@;}");
        fault(2, "task t 1{log @=1;}");
        logs("a comparison of sums", ran("task t 1 main{log 1+1=2;log 3<1+1;log 2*2>3;log (1=1)=1;}", 4), 1, 0, 1, 1);
    }

    @Holds("Terms: SUM: TERM { (+ | -) TERM } TERM: F { (* | / | %) F }")
    private static void sumsAndTerms() {
        expression("1 + 2 - 3 + 4");
        expression("1 * 2 / 3 % 4");
        expression("1 + 2 * 3 - 4 / 5");
        fault(2, "task t 1{log 1+@;}");
        fault(2, "task t 1{log 1*@;}");
        fault(2, "task t 1{log @+1;}");
        fault(2, "task t 1{log @*1;}");
        fault(2, "task t 1{log 1 @2;}");
        fault(2, "task t 1{log 1*@/2;}");
        fault(2, "task t 1{log 1+@+2;}");
        logs("terms ahead of sums", ran("task t 1 main{log 2+3*4;log 20-6/2;log 7-5%3;log 2*3+4*5;}", 4), 14, 17, 5, 26);
    }

    @Holds("Terms: F: NUMBER | NAME | NAME \"[\" E \"]\" | size NAME | time | state NAME | - F | ( E )")
    private static void factors() {
        expression("1");
        expression("a");
        expression("r [ 1 ]");
        expression("size r");
        expression("time");
        expression("state u");
        expression("- 1");
        expression("- - a");
        expression("( 1 )");
        expression("- ( r [ - 1 ] )");
        fault(2, "task t 1{log (@);}");
        fault(2, "task t 1{log (1@;}");
        fault(2, "task t 1{log r[@];}");
        fault(2, "task t 1{log r[1@;}");
        fault(2, "task t 1{log (r)@[1];}");
        fault(2, "task t 1{log 5@[1];}");
        fault(2, "task t 1{log time@[1];}");
        fault(2, "task t 1{log size @(r);}");
        fault(2, "task t 1{log state @1;}");
        fault(2, "task t 1{log size@;}");
        fault(2, "task t 1{log -@;}");
        fault(2, "task t 1{log size r@[1];}");
    }
}

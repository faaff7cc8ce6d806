// Terms, 1 TEXTS: sorts, limits and faults. Each test says the sentence of the document that it holds.
public final class SortsTest extends Check {
    // A name of each sort, by its number; then one of a PARAMETER, and one that means nothing.
    private static final String NAMES = "vrsbinoptxz";
    private static final String HEAD = "var v;row r;sema s 1;bolt b;irpt i;in n;out o;proc p(){}task t 1{}var w;row q;sema u 1;";
    private static final int VAR = 0, ROW = 1, SEMA = 2, BOLT = 3, IRPT = 4, IN = 5, OUT = 6, PROC = 7, TASK = 8, PARAMETER = 9;

    public static void main(String[] args) throws IllegalAccessException {
        all(SortsTest.class);
    }

    /** A name stands where # is: of all sorts these alone can, of the others and of a name that is not told it is fault 6. */
    private static void wanted(String statement, int... sorts) {
        for (int sort = 0; sort < NAMES.length(); sort++) {
            boolean fit = false;
            for (int one : sorts) {
                fit = fit || one == sort;
            }
            String ahead = HEAD + "proc k(x){" + statement.substring(0, statement.indexOf('#'));
            String text = ahead + NAMES.charAt(sort) + statement.substring(statement.indexOf('#') + 1) + "}";
            if (fit) {
                fits(text);
            } else {
                fault(6, ahead.length(), text);
            }
        }
    }

    /** So many of a sort fit; one more is fault 3 at its NAME, also where that is told already. */
    private static void atMost(int most, String declaration) {
        StringBuilder text = new StringBuilder();
        for (int i = 0; i < most; i++) {
            fits(text.toString());
            text.append(declaration.replace("#", "a" + i));
        }
        fits(text.toString());
        fault(3, text + declaration.replace("#", "@b"));
        fault(3, text + declaration.replace("#", "@a0"));
        fault(3, "proc zz(x){}" + text + declaration.replace("#", "@zz"));
    }

    @Holds("Terms: SORTS: var 0, row 1, sema 2, bolt 3, irpt 4, in 5, out 6, proc 7, task 8;")
    private static void sortsHaveNumbers() {
        House h = read("var a;row b;sema c 1;bolt d;irpt e;in f;out g;proc h(){}task k 1{}");
        String names = "abcdefghk";
        for (int sort = 0; sort <= 8; sort++) {
            for (int other = 0; other <= 8; other++) {
                due(other == sort ? 0 : NONE, h.find(other, names.charAt(sort)));
            }
        }
        int[] many = {6, 1, 2, 3, 4, 1, 3, 5, 7};
        String[] told = {"var #;", "row #;", "sema # 1;", "bolt #;", "irpt #;", "in #;", "out #;", "proc #(){}", "task # 1{}"};
        StringBuilder text = new StringBuilder();
        for (int sort = 0; sort <= 8; sort++) {
            for (int i = 0; i < many[sort]; i++) {
                text.append(told[sort].replace("#", names.charAt(sort) + "" + i));
            }
        }
        h = read(text.toString());
        for (int sort = 0; sort <= 8; sort++) {
            due(many[sort], h.declared(sort));
        }
    }

    @Holds("Terms: of each they are numbered from 0 as they stand;")
    private static void numbersGoFrom0AsTheyStand() {
        House h = begun("task z 3{}var y=5;in d;task a 4{}var b=6;out c;var k=7;in e;out f;task m 2{}");
        String[] found = {"z8", "a8", "m8", "y0", "b0", "k0", "d5", "e5", "c6", "f6"};
        int[] due = {0, 1, 2, 0, 1, 2, 0, 1, 0, 1};
        for (int i = 0; i < found.length; i++) {
            due(due[i], h.find(found[i].charAt(1) - '0', found[i].charAt(0)));
        }
        due(5, h.value(0));
        due(6, h.value(1));
        due(7, h.value(2));
    }

    @Holds("Terms: of each they are numbered from 0 as they stand;")
    private static void theLastOfEachSort() {
        StringBuilder text = new StringBuilder();
        for (int i = 0; i < 8; i++) {
            text.append("var v").append(i).append('=').append(10 + i).append(";task t").append(i).append(" 1 main{v").append(i).append("=v").append(i).append("*2;enter b3;log v").append(i).append(";}");
        }
        for (int i = 0; i < 4; i++) {
            text.append("row r").append(i).append(";sema s").append(i).append(' ').append(2 * i).append(";bolt b").append(i).append(";irpt i").append(i).append(";out o").append(i).append(';');
        }
        House h = ran(text.toString(), 24);
        for (int i = 0; i < 8; i++) {
            due(20 + 2 * i, h.value(i));
            due(20 + 2 * i, h.logged(i));
            due(1, h.bolt(3, 2 + i));
        }
        due(8, h.bolt(3, 1));
        due(0, h.bolt(2, 1));
        for (int i = 0; i < 4; i++) {
            due(2 * i, h.sema(i));
            due(1, h.trigger(i));
            due(1, h.irpt(i, 2));
        }
    }

    @Holds("Terms: of each they are numbered from 0 as they stand;")
    private static void theLastOfEachSortIsNoneOfTheOthers() {
        House h = ran("row a;row b;row c;row d;sema e 0;sema f 0;sema g 0;sema h 8;irpt i;irpt j;irpt k;irpt l;out m;out n;out o;out p;bolt q;bolt r;bolt s;bolt t;"
            + "task u 1 main{make a 2;make b 2;make c 2;make d 2;a[1]=1;b[1]=2;c[1]=3;d[1]=4;make b 2;make a 1;put p 6;put m 7;reserve t;ask h,h;disable l;pull l;pull k;"
            + "if 1{on 8{}give h,h,h,h;}if 1{on 8{}leave t;}give h;make d 1;d[0]=9;same a d;}", 40);
        int[] sizes = {1, 2, 2, 1};
        int[] items = {9, 0, 0, 9};
        for (int row = 0; row < 4; row++) {
            due(sizes[row], h.item(row, NONE));
            due(items[row], h.item(row, 0));
        }
        due(0, h.item(1, 1));
        due(3, h.item(2, 1));
        due(1, h.one(0, 3));
        due(7, h.sema(3));
        due(6, h.sent(3, 0));
        due(7, h.sent(0, 0));
        due(0, h.sent(1, NONE));
        due(0, h.bolt(3, 0));
        due(NONE, h.bolt(0, 0));
        due(0, h.irpt(3, 0));
        due(1, h.irpt(3, 1));
        due(1, h.irpt(2, 2));
        due(2, h.count(4));
        h = begun("sema e 9;sema f 9;sema g 9;sema h 0;task t 1 main{ask h;log 1;}");
        due(0, h.run(9));
        h = begun("var v;in a;in b;in c;in d;task t 1 main{take d v;take d v;log v;}");
        for (int i = 1; i <= 20; i++) {
            due(i, h.send(3, i));
        }
        due(FULL, h.send(3, 21));
        h.run(3);
        logs("the last in", h, 2);
        due(19, h.send(3, 21));
        h = ran("var a=1;out m;out n;out o;out p;task t 1 main{while a<41{put p a;put m -a;a=a+1;}}", 200);
        due(40, h.sent(3, 39));
        due(-40, h.sent(0, 39));
    }

    @Holds("Terms: PARAMETERS of a proc (known in its BLOCK, ahead of all of that NAME that is told) are 9.")
    private static void parametersAreKnownInTheirBlockAlone() {
        fits("proc p(x){on 1{log x;}if x{while x{x=x+1;}}else{return x;}}");
        fault(6, "proc p(x){log x;}task t 1{log @x;}");
        fault(6, "proc p(x){}proc q(y){log @x;}");
        fault(6, "proc q(y){log @x;}proc p(x){}");
        fault(6, "task t 1{log @x;}proc p(x){log x;}");
        fits("proc p(x,y){log x+y;}proc q(y,x){log x-y;}");
        House h = ran("var r;proc p(x,y,z){return x*100+y*10+z;}task t 1 main{r=do p(1,2,3);}", 2);
        due(123, h.value(0));
        due(NONE, h.find(9, 'x'));
    }

    @Holds("Terms: PARAMETERS of a proc (known in its BLOCK, ahead of all of that NAME that is told) are 9.")
    private static void parametersGoAheadOfWhatIsTold() {
        House h = ran("var x=5;proc p(x){log x;x=x+1;log x;}task t 1 main{do p(7);log x;}", 9);
        logs("a PARAMETER ahead of a var", h, 7, 8, 5);
        h = ran("proc p(x){log x;}task t 1 main{do p(7);log x;}var x=5;", 9);
        logs("a PARAMETER ahead of a var that is told behind", h, 7, 5);
        fault(6, "row x;proc p(x){make @x 1;}");
        fault(6, "task x 1{}proc p(x){start @x;}");
        fault(6, "proc x(x){do @x(1);}");
        fault(6, "var x;in n;proc p(x){take n @x;}");
        fits("row x;proc p(x){log x;}task t 1{make x 1;}");
        fits("proc x(x){log x;}task t 1{do x(1);}");
    }

    @Holds("Terms: Told NAMES are known in the whole text.")
    private static void namesAreKnownAheadOfWhereTheyAreTold() {
        fits("task t 1{a=1;make r a;ask s;reserve b;pull i;take n a;put o a;do p();start u;}"
            + "var a;row r;sema s 1;bolt b;irpt i;in n;out o;proc p(){}task u 1{}");
        House h = ran("task t 1 main{a=do p(4);log a;}proc p(x){return x+a;}var a=3;", 9);
        logs("told behind", h, 7);
    }

    @Holds("Terms: Wanted are: a var or PARAMETER ahead of =, in an E alone, second behind take (a var);")
    private static void varsAreWanted() {
        wanted("#=1;", VAR, PARAMETER);
        wanted("#=do p();", VAR, PARAMETER);
        wanted("log #;", VAR, PARAMETER);
        wanted("log 1+#*2;", VAR, PARAMETER);
        wanted("log r[#];", VAR, PARAMETER);
        wanted("if (-#){}", VAR, PARAMETER);
        wanted("return #;", VAR, PARAMETER);
        wanted("at # start t;", VAR, PARAMETER);
        wanted("take n #;", VAR);
    }

    @Holds("Terms: a row ahead of [, behind make, same, lose, size;")
    private static void rowsAreWanted() {
        wanted("#[0]=1;", ROW);
        wanted("log #[0];", ROW);
        wanted("make # 1;", ROW);
        wanted("same # q;", ROW);
        wanted("same q #;", ROW);
        wanted("lose #;", ROW);
        wanted("log size #;", ROW);
    }

    @Holds("Terms: a sema behind ask, give;")
    private static void semasAreWanted() {
        wanted("ask #;", SEMA);
        wanted("ask u,u,u,#;", SEMA);
        wanted("give #;", SEMA);
        wanted("give u,#;", SEMA);
    }

    @Holds("Terms: a bolt behind reserve to leave;")
    private static void boltsAreWanted() {
        wanted("reserve #;", BOLT);
        wanted("free #;", BOLT);
        wanted("enter #;", BOLT);
        wanted("leave #;", BOLT);
    }

    @Holds("Terms: a task behind start, go, end, hold, prior, prevent, state;")
    private static void tasksAreWanted() {
        for (String word : new String[] {"start #;", "go #;", "end #;", "hold #;", "prior # 1;", "prevent #;", "log state #;", "at 1 start #;",
            "after 1 go #;", "all 1 start #;", "all 1 until 2 go #;", "when i start #;"}) {
            wanted(word, TASK);
        }
    }

    @Holds("Terms: an in behind take, an out behind put;")
    private static void stationsAreWanted() {
        wanted("take # v;", IN);
        wanted("put # 1;", OUT);
    }

    @Holds("Terms: an irpt behind pull, enable, disable, when;")
    private static void irptsAreWanted() {
        wanted("pull #;", IRPT);
        wanted("enable #;", IRPT);
        wanted("disable #;", IRPT);
        wanted("when # start t;", IRPT);
        wanted("when # go t;", IRPT);
    }

    @Holds("Terms: a proc behind do.")
    private static void procsAreWanted() {
        wanted("do #();", PROC);
        wanted("v=do #();", PROC);
    }

    @Holds("Terms: At most: 8 vars,")
    private static void eightVars() {
        atMost(8, "var #;");
        atMost(8, "var #=-1;");
    }

    @Holds("Terms: 4 rows,")
    private static void fourRows() {
        atMost(4, "row #;");
    }

    @Holds("Terms: 4 semas,")
    private static void fourSemas() {
        atMost(4, "sema # 9;");
    }

    @Holds("Terms: 4 bolts,")
    private static void fourBolts() {
        atMost(4, "bolt #;");
    }

    @Holds("Terms: 4 irpts,")
    private static void fourIrpts() {
        atMost(4, "irpt #;");
    }

    @Holds("Terms: 4 ins and outs together,")
    private static void fourInsAndOuts() {
        atMost(4, "in #;");
        atMost(4, "out #;");
        fits("in a;in b;out c;out d;");
        fits("out a;in b;in c;in d;");
        fault(3, "in a;in b;out c;out d;in @e;");
        fault(3, "in a;in b;out c;out d;out @e;");
        fault(3, "out a;in b;in c;in d;out @e;");
        fault(3, "in a;out b;out c;out d;in @a;");
    }

    @Holds("Terms: 6 procs,")
    private static void sixProcs() {
        String procs = "proc a(){}proc b(x){}proc c(){}proc d(){}proc e(){}proc f(x,y,z){}";
        fits(procs);
        fault(3, procs + "proc @g(){}");
        fault(3, procs + "proc @a(){}");
    }

    @Holds("Terms: 8 tasks;")
    private static void eightTasks() {
        atMost(8, "task # 1{}");
        atMost(8, "task # 9 main{}");
    }

    @Holds("Terms: 3 PARAMETERS,")
    private static void threeParameters() {
        fits("proc p(a,b,c){}");
        fits("proc p(a,b,c){}proc q(a,b,c){}");
        fault(3, "proc p(a,b,c,@d){}");
        fault(3, "proc p(a,b,c,@a){}");
        fault(2, "proc p(a,b,c,@1){}");
        fault(2, "proc p(a,b,c,@){}");
    }

    @Holds("Terms: 4 NAMES behind ask, give;")
    private static void fourNamesInAList() {
        for (String word : new String[] {"ask", "give"}) {
            fits("sema s 1;sema t 1;task u 1{" + word + " s,t,s,t;" + word + " s,s,s,s;}");
            fault(3, "sema s 1;task u 1{" + word + " s,s,s,s,@s;}");
            fault(3, "sema s 1;task u 1{" + word + " s,s,s,s,@z;}");
            fault(2, "sema s 1;task u 1{" + word + " s,s,s,s,@5;}");
        }
    }

    @Holds("Terms: 3 E of a do;")
    private static void threeExpressionsOfADo() {
        String head = "var v;row r;proc p(a,b,c){}task t 1{do p(1,2,3";
        fits(head + ");}");
        for (String e : new String[] {"4", "v", "r[0]", "(1)", "-1", "size r", "time", "state t", "z"}) {
            fault(3, head + ",@" + e + ");}");
        }
        fault(3, "var v;proc p(a,b,c){}task t 1{v=do p(1,2,3,@4);}");
        fault(3, "proc p(){}task t 1{do p(1,2,3,@4);}");
        fault(2, head + ",@);}");
        fault(2, head + ",@+1);}");
    }

    @Holds("Terms: 200 S,")
    private static void twoHundredStatements() {
        String full = "task t 1{" + times(200, "end;");
        House h = read(full + "}");
        due(200, h.declared(9));
        fault(3, full + "@end;}");
        for (String s : new String[] {"a=1;", "r[0]=1;", "do p();", "if 1{}", "while 1{}", "ask s;", "at 1 start t;", "log 1;"}) {
            fault(3, full + "@" + s + "}");
        }
        String spread = "proc p(){" + times(90, "end;") + "}task u 1{on 1{" + times(50, "end;") + "}if 1{" + times(30, "end;") + "}else{" + times(28, "end;");
        fits(spread + "}end;}");
        fault(3, spread + "}end;@end;}");
        fault(3, spread + "end;@end;}}");
        fits("task t 1{" + times(199, "end;") + "if 1{}else{}}");
        fault(3, "task t 1{" + times(199, "end;") + "if 1{@end;}}");
    }

    @Holds("Terms: 400 NODES (of an E each NUMBER, NAME, sign, size, time, state; ( ) [ ] and what stands behind size, state none);")
    private static void whatIsANode() {
        String[] of = {"log 1;", "log v;", "log time;", "log size r;", "log state t;", "log r[1];", "log -1;", "log (((1)));", "log 1+2-3*4/5%6;", "log 1=2;", "log 1<2;",
            "log 1>2;", "r[1]=2;", "v=1;", "prior t 1;", "make r 1;", "put o v;", "do p(1,v);", "v=do p(1,2);", "all 1 until 2 start t;", "at -(v) go t;", "when i start t;",
            "end;", "end t;", "ask s,s;", "same r r;", "take n v;", "if v{}", "while r[r[0]]{}", "log --1;"};
        int[] due = {1, 1, 1, 1, 1, 2, 2, 1, 11, 3, 3, 3, 2, 1, 1, 1, 1, 2, 2, 2, 2, 0, 0, 0, 0, 0, 0, 1, 3, 3};
        for (int i = 0; i < of.length; i++) {
            House h = read("var v=5;row r;sema s 7;irpt i;in n;out o;proc p(x,y){on 9{}}task t 1{" + of[i] + "}");
            due("NODES of " + of[i], due[i], h.declared(10));
        }
    }

    @Holds("Terms: 400 NODES (of an E each NUMBER, NAME, sign, size, time, state; ( ) [ ] and what stands behind size, state none);")
    private static void fourHundredNodes() {
        String ahead = "var v;row r;proc p(){" + times(100, "log 1;") + "}task t 1{" + times(97, "log 1;") + "log 1" + times(99, "+1") + ";";
        due(396, read(ahead + "}").declared(10));
        for (String four : new String[] {"log 1+1;log 1;", "log size r+state t;log time;", "log ((1)+(1));log ((1));", "log r[1];log r[v];", "log -(1)+1;end;", "log ---1;end;"}) {
            due(400, read(ahead + four + "}").declared(10));
        }
        String full = ahead + "log -1+1;";
        for (String last : new String[] {"@v", "@r[1]", "@-1", "@1", "@size r", "@time", "@state t", "(@1)"}) {
            fault(3, full + "log " + last + ";}");
        }
        fault(3, full + "r[@1]=2;}");
        fault(3, full + "v=@1;}");
        fault(3, ahead + "log 1+1+@1;}");
        fault(3, ahead + "log 1+1;log 1@+1;}");
        fault(3, ahead + "log r[1];log r[r[@1]];}");
        fault(3, ahead + "log 1+1;r[1]=@2;}");
        fault(2, full + "log @;}");
        fault(2, full + "log @+1;}");
    }

    @Holds("Terms: 12 of \"{\", ( of an E, [, - of an F within one another.")
    private static void twelveBracesWithinOneAnother() {
        fits("task t 1" + times(11, "{if 1") + "{log 1;}" + times(11, "}"));
        fault(3, "task t 1" + times(12, "{if 1") + "@{}" + times(12, "}"));
        fits("proc p()" + times(11, "{while 1") + "{}" + times(11, "}"));
        fault(3, "proc p()" + times(12, "{while 1") + "@{}" + times(12, "}"));
        fits("task t 1" + times(11, "{on 1") + "{}" + times(11, "}"));
        fault(3, "task t 1" + times(12, "{on 1") + "@{}" + times(12, "}"));
        fault(3, "task t 1" + times(11, "{if 1") + "{if 1@{}" + times(12, "}"));
        fault(3, "task t 1" + times(11, "{if 1{}else") + "{if 1@{}" + times(12, "}"));
        fits("task t 1{" + times(20, "if 1{}else{}while 1{}") + "}");
    }

    @Holds("Terms: 12 of \"{\", ( of an E, [, - of an F within one another.")
    private static void twelveSignsWithinOneAnother() {
        fits("task t 1{log " + times(11, "(") + "1" + times(11, ")") + ";}");
        fault(3, "task t 1{log " + times(11, "(") + "@(1" + times(12, ")") + ";}");
        fits("task t 1{log " + times(11, "-") + "1;}");
        fault(3, "task t 1{log " + times(11, "-") + "@-1;}");
        fits("row r;task t 1{log " + times(11, "r[") + "1" + times(11, "]") + ";}");
        fault(3, "row r;task t 1{log " + times(11, "r[") + "r@[1" + times(12, "]") + ";}");
        String deep = "row r;proc p(x){}task t 1" + times(9, "{if 1") + "{";
        String ends = times(10, "}");
        fits(deep + "log -(1);log (-1);log r[-1];log -r[1];r[-1]=1;r[1]=-(1);do p(-(1));" + ends);
        fault(3, deep + "log -(@-1);" + ends);
        fault(3, deep + "log -(r@[1]);" + ends);
        fault(3, deep + "r[-@(1)]=1;" + ends);
        fault(3, deep + "r[r[r@[1]]]=1;" + ends);
        fault(3, deep + "do p(((@(1))));" + ends);
        fault(3, "row r;task t 1" + times(11, "{if 1") + "{r@[1]=1;" + times(12, "}"));
        fault(3, "task t 1" + times(11, "{if 1") + "{if @(1){}" + times(12, "}"));
        fits("proc p(x){}task t 1" + times(11, "{if 1") + "{do p(2-1);log 3-2-1;" + times(12, "}"));
        fits("row r;task t 1{log -1" + times(13, "*-1") + "+(1)" + times(13, "+(1)") + "+r[0]" + times(13, "+r[0]") + ";}");
    }

    @Holds("Terms: FAULTS, at a TOKEN's first byte (the end: the text's length),")
    private static void faultsHaveAPlace() {
        fault(2, "@x");
        fault(2, "   @longname");
        fault(2, "row \n\n @while;");
        fault(2, 0, "x");
        fault(2, 3, "row");
        fault(2, 4, "row ");
        fault(2, 9, "row \n\n   ");
        fault(2, 5, "row r");
        fault(1, 4, "row abcdefghijkl");
        fault(2, 10, "task t 1 {");
    }

    @Holds("Terms: the first, of one TOKEN the least:")
    private static void theFirstFaultIsTold() {
        fault(5, "sema s @10;row &");
        fault(4, "var a;var @a;var 1");
        fault(3, "row a;row b;row c;row d;row @e;&");
        fault(2, "row @1;&");
        fault(5, "task t @0{on 0{}}");
        fault(1, "task t 1{log @A;return 1;}");
        fault(2, "task t 1{@return A;}");
    }

    @Holds("Terms: the first, of one TOKEN the least:")
    private static void ofOneTokenTheLeast() {
        String vars = "var a;var b;var c;var d;var e;var f;var g;var h;";
        fault(1, vars + "var @abcdefghi;");
        fault(2, vars + "var @1;");
        fault(2, vars + "var @if;");
        fault(3, vars + "var @a;");
        fault(1, "var abcdefgh;var @abcdefghi;");
        fault(1, "sema s @1000000000;");
        fault(1, "task t 1{on @0000000000{}}");
        fault(2, "task t 1{" + times(200, "end;") + "@return 1;}");
        fault(1, "task t 1{" + times(200, "end;") + "@ABC;}");
        fault(2, "task t 1" + times(12, "{if 1") + "@(" + times(12, "}"));
        fault(1, "task t 1" + times(12, "{if 1") + "@!" + times(12, "}"));
        fault(2, "sema s 1;task t 1{ask s,s,s,s,@{};}");
        fault(1, "sema s 1;task t 1{ask s,s,s,s,@abcdefghi;}");
        fault(3, "proc p(a,b,c,@c){}");
    }

    @Holds("Terms: 1 none begins, or it is too long;")
    private static void fault1() {
        fault(1, "@\0");
        fault(1, "row r;@\u00ff");
        fault(1, "row r; @# row");
        fault(1, "@abcdefghi r;");
        fault(1, "task t @0000000001{}");
        fault(1, "task t 1{log 1@.5;}");
    }

    @Holds("Terms: 2 it can't stand there (return outside of a proc, too);")
    private static void fault2() {
        fault(2, "@)");
        fault(2, "task t 1{@return 1;}");
        fault(2, "task t 1{on 1{@return 1;}}");
        fault(2, "task t 1{if 1{}else{while 1{@return 1;}}}");
        fault(2, "proc p(){}task t 1{@return 1;}");
        fault(2, "proc p(){return 1;}task t 1{@return 1;}proc q(){return 2;}");
        fits("proc p(){on 1{return 1;}if 1{return 2;}else{while 1{return 3;}}return 4;}");
    }

    @Holds("Terms: 3 too many (at the NAME that is told, or stands behind ask, give; the S's, E's first TOKEN, the NODE's, the \"{\", (, [, -);")
    private static void fault3() {
        fault(3, "row a;row b;row c;row d;  row \n @e;");
        fault(3, "proc p(a,b,c, @d){}");
        fault(3, "sema s 1;task t 1{give s,s,s,s, @s;}");
        fault(3, "task t 1{" + times(200, "end;") + " @at 1 start t;}");
        fault(3, "proc p(){}task t 1{do p(1,2,3, @(4)+5);}");
        String nodes = "row r;task t 1{" + times(100, "log 1;") + "log 1" + times(149, "+1") + ";";
        due(399, read(nodes + "}").declared(10));
        fault(3, nodes + "log 1 @+ 2;}");
        fault(3, nodes + "log - @2;}");
        fault(3, nodes + "log r[ @2];}");
        fault(3, nodes + "log 1 @= 2;}");
        fault(3, nodes + "log 1;log @size r;}");
        fault(3, nodes + "log 1;log @- 1;}");
        fault(3, "row r;task t 1" + times(12, "{if 1") + " @{}" + times(12, "}"));
        fault(3, "row r;task t 1" + times(11, "{if 1") + "{log @(1);" + times(12, "}"));
        fault(3, "row r;task t 1" + times(11, "{if 1") + "{log r @[1];" + times(12, "}"));
        fault(3, "row r;task t 1" + times(11, "{if 1") + "{log 2- @-1;" + times(12, "}"));
    }

    @Holds("Terms: 4 a NAME that is told already (in the module; of PARAMETERS one of the same proc);")
    private static void fault4() {
        String[] told = {"var #;", "row #;", "sema # 1;", "bolt #;", "irpt #;", "in #;", "out #;", "proc #(){}", "task # 1{}"};
        for (String first : told) {
            for (String second : told) {
                fault(4, first.replace("#", "a") + second.replace("#", "@a"));
            }
        }
        fault(4, "proc p(a,@a){}");
        fault(4, "proc p(a,b,@b){}");
        fault(4, "proc p(a,b,@a){}");
        fits("proc p(a,b){}proc q(a,b){}var a;row b;");
        fits("var a;row b;proc p(a,b,p){}");
        fault(4, "proc p(a){}var a;var @p;");
    }

    @Holds("Terms: 5 a NUMBER not 0 .. 9 of a sema, 1 .. 9 of a task, 1 .. 19 behind on;")
    private static void fault5() {
        for (int i = 0; i <= 21; i++) {
            String[] texts = {"sema s @" + i + ";", "task t @" + i + "{}", "task t @" + i + " main{}", "proc p(){on @" + i + "{}}"};
            boolean[] fit = {i <= 9, i >= 1 && i <= 9, i >= 1 && i <= 9, i >= 1 && i <= 19};
            for (int j = 0; j < texts.length; j++) {
                if (fit[j]) {
                    fits(texts[j].replace("@", ""));
                } else {
                    fault(5, texts[j]);
                }
            }
        }
        fault(5, "sema s @999999999;");
        fault(5, "task t @999999999{}");
        fault(5, "task t 1{on @999999999{}}");
        fits("sema s 000000009;task t 000000009{on 000000019{}}");
    }

    @Holds("Terms: a second on of one BLOCK for the same.")
    private static void aSecondOn() {
        fault(5, "task t 1{on 3{}on @3{}}");
        fault(5, "task t 1{on any{}on @any{}}");
        fault(5, "task t 1{on 3{}on any{}on 4{}on @003{}}");
        fault(5, "proc p(){if 1{on 19{}on @19{}}}");
        fault(5, "task t 1{on 1{on 2{}on @2{}}}");
        fits("task t 1{on 3{on 3{}on any{}}on any{on 3{}on any{}}if 1{on 3{}on any{}}else{on 3{}}}");
        StringBuilder all = new StringBuilder("task t 1{on any{}");
        for (int i = 1; i <= 19; i++) {
            all.append("on ").append(i).append("{}");
        }
        fits(all + "}");
        fault(5, all + "on @1{}}");
        fault(5, all + "on @19{}}");
    }

    @Holds("Terms: Without these 6, the first NAME that means nothing of the SORT that is wanted;")
    private static void fault6() {
        fault(6, "task t 1{log @z;log y;}");
        fault(6, "task t 1{log 1+@z;y=1;}");
        fault(6, "task t 1{@y=z;}");
        fault(6, "row r;task t 1{r[@z]=y;}");
        fault(6, "sema s 1;task t 1{ask s,@z,y;}");
        fault(2, "task t 1{log z;}@log");
        fault(1, "task t 1{log z;}@&");
        fault(3, "task t 1{log z;}row a;row b;row c;row d;row @e;");
        fault(4, "task t 1{log z;}row a;row @a;");
        fault(5, "task t 1{log z;}sema s @10;");
    }

    @Holds("Terms: without it 7, the first do with another number of E than PARAMETERS (at its NAME).")
    private static void fault7() {
        String procs = "proc a(){}proc b(x){}proc c(x,y){}proc d(x,y,z){}";
        String[] given = {"", "1", "1,2", "1,2,3"};
        for (int i = 0; i < 4; i++) {
            for (int j = 0; j < 4; j++) {
                String text = procs + "task t 1{do  @" + "abcd".charAt(i) + "(" + given[j] + ");}";
                if (i == j) {
                    fits(text.replace("@", ""));
                } else {
                    fault(7, text);
                }
            }
        }
        fault(7, procs + "var v;task t 1{do a();v=do @b();do c();}");
        fault(7, "task t 1{do @b(1,2);}" + procs);
        fault(7, "proc r(x){do @r();}");
        fault(6, procs + "task t 1{do b();log @z;}");
        fault(6, procs + "task t 1{do b(@z,1);}");
        fault(2, procs + "task t 1{do b();}@5");
        fault(5, procs + "task t 1{do b();}task u @0{}");
    }
}

// Promises 1 to 6: the tape, the tokens, the grammar, the limits, the faults, what a module tells.
public final class TextTest {
    public static void main(String[] args) {
        newObject();
        feed();
        module();
        place();
        declared();
        find();
        tokens();
        grammar();
        statements();
        tooMany();
        tooManyNodes();
        tooDeep();
        toldAlready();
        spans();
        sortsWanted();
        misfits();
        firstAndLeast();
        behindFaults();
        readAgain();
        manyBlocks();
        Check.finish();
    }

    private static void newObject() {
        House h = new House();
        Check.due("place()", PearlHouse.NONE, h.place());
        for (int sort = 0; sort <= 10; sort++) {
            Check.due("declared(" + sort + ")", 0, h.declared(sort));
        }
        Check.due("begin()", PearlHouse.STATE, h.begin());
        Check.due("run(1)", PearlHouse.STATE, h.run(1));
        Check.due("processors(1)", 1, h.processors(1));
        Check.due("feed(97, 1)", 1, h.feed(97, 1));
        Check.due("constants", -1234, PearlHouse.NONE * 1000 + PearlHouse.BAD * 100 + PearlHouse.STATE * 10 + PearlHouse.FULL);
    }

    private static void feed() {
        House h = new House();
        Check.due("feed(0, -1)", PearlHouse.BAD, h.feed(0, -1));
        Check.due("feed(0, 9)", PearlHouse.BAD, h.feed(0, 9));
        Check.due("feed(0, 0)", 0, h.feed(0, 0));
        Check.due("feed of 5 bytes", 5, h.feed(Check.name("??row r"), 5));
        Check.due("feed of 1 byte", 6, h.feed(Check.name("xyz;"), 1));
        Check.due("module()", 0, h.module());
        Check.due("find(1, r)", 0, h.find(1, Check.name("r")));
        Check.due("feed(-1, 8)", 8, h.feed(-1L, 8));
        Check.due("feed(1, 0)", 0, h.feed(1, 0));
        Check.due("module() of an empty tape", 0, h.module());
        h = new House();
        for (int i = 1; i <= 499; i++) {
            Check.due("feed of 8 blanks", 8 * i, h.feed(0x2020202020202020L, 8));
        }
        Check.due("feed, 7 more", 3999, h.feed(0x20202020202020L, 7));
        Check.due("feed, 2 too many", PearlHouse.FULL, h.feed(32, 2));
        Check.due("feed(32, 9), BAD ahead of FULL", PearlHouse.BAD, h.feed(32, 9));
        Check.due("feed, the last", 4000, h.feed(32, 1));
        Check.due("feed, one too many", PearlHouse.FULL, h.feed(32, 1));
        Check.due("module() of blanks", 0, h.module());
        Check.due("feed, the tape is empty", 1, h.feed(32, 1));
    }

    private static void module() {
        House h = Check.read("task a 1 {} task b 2 main { log 1; }");
        Check.due("declared(8)", 2, h.declared(8));
        Check.due("begin()", 1, h.begin());
        Check.feed(h, "task c 1 {");
        Check.due("module(), a fault", -12, h.module());
        Check.due("the module stays", 2, h.declared(8));
        Check.due("the run stays", 1, h.run(1));
        Check.due("its log", 1, h.logged(0));
        Check.due("the tape is empty behind a fault", 1, h.feed('t', 1));
        Check.feed(h, "ask c 1 {}");
        Check.due("module()", 1, h.module());
        Check.due("no run is there", PearlHouse.STATE, h.run(1));
        Check.due("no log", 0, h.logged(0));
        Check.due("no count", PearlHouse.STATE, h.count(0));
        Check.due("find(8, a), the old one", PearlHouse.NONE, h.find(8, 'a'));
        Check.due("find(8, c)", 0, h.find(8, 'c'));
        Check.due("begin()", 0, h.begin());
        Check.due("run(1)", 2, h.run(1));
        Check.due("module() of an empty tape", 0, h.module());
        Check.due("begin()", 0, h.begin());
        Check.due("run(1) without tasks", 2, h.run(1));
    }

    private static void place() {
        House h = new House();
        Check.feed(h, "row ;");
        Check.due("module()", -12, h.module());
        Check.due("place()", 4, h.place());
        Check.due("place() again", 4, h.place());
        Check.feed(h, "row r");
        Check.due("place() when the next text is fed", 4, h.place());
        Check.due("module(), a fault at the end", -12, h.module());
        Check.due("place(), the text's length", 5, h.place());
        Check.feed(h, "row r;");
        Check.due("module()", 0, h.module());
        Check.due("place()", PearlHouse.NONE, h.place());
        Check.fault(2, "row r@");
        Check.fault(2, "row r  \n @");
        Check.fault(2, "@x");
    }

    private static void declared() {
        House h = Check.read("var a; var b; row c; sema d 0; bolt e; irpt f; in g; in h; out i; proc p() {} task t 1 {}"
            + "task u 2 { if a { log 1; } else { log c[b] + size c; } c[0] = time; a = -a * (b + 2) > state t; do p(); }");
        int[] due = {2, 1, 1, 1, 1, 2, 1, 1, 2, 6, 16};
        for (int sort = 0; sort <= 10; sort++) {
            Check.due("declared(" + sort + ")", due[sort], h.declared(sort));
        }
        Check.due("declared(-1)", PearlHouse.BAD, h.declared(-1));
        Check.due("declared(11)", PearlHouse.BAD, h.declared(11));
        h.feed(0, 0);
        h.module();
        Check.due("declared(10) of nothing", 0, h.declared(10));
    }

    private static void find() {
        House h = Check.read("var a; var abcdefg1; in n; out o; in m; task z9 1 {} proc p(q) {}");
        Check.due("find(0, a)", 0, h.find(0, Check.name("a")));
        Check.due("find(0, abcdefg1)", 1, h.find(0, Check.name("abcdefg1")));
        Check.due("find(0, abcdefg)", PearlHouse.NONE, h.find(0, Check.name("abcdefg")));
        Check.due("find(5, m)", 1, h.find(5, Check.name("m")));
        Check.due("find(6, o)", 0, h.find(6, Check.name("o")));
        Check.due("find(8, z9)", 0, h.find(8, Check.name("z9")));
        Check.due("find(7, p)", 0, h.find(7, Check.name("p")));
        Check.due("find(0, q), a parameter", PearlHouse.NONE, h.find(0, Check.name("q")));
        Check.due("find(9, q)", PearlHouse.NONE, h.find(9, Check.name("q")));
        Check.due("find(1, a), another sort", PearlHouse.NONE, h.find(1, Check.name("a")));
        Check.due("find(-1, a)", PearlHouse.NONE, h.find(-1, Check.name("a")));
        Check.due("find(0, 0)", PearlHouse.NONE, h.find(0, 0));
        Check.due("find(0, -1)", PearlHouse.NONE, h.find(0, -1));
        Check.due("find(0, a and a blank)", PearlHouse.NONE, h.find(0, Check.name("a ")));
    }

    /** Every sort of fault leaves an empty tape, and the module and the run of before. */
    private static void behindFaults() {
        String[] texts = {"&", "row", "task t 1{" + Check.times(201, "end;"), "row r;row r;", "sema s 10;", "task t 1{log x;}",
            "proc p(){}task t 1{do p(1);}"};
        for (int i = 0; i < texts.length; i++) {
            House h = Check.ran("var a = 7; task t 1 main { a = 8; a = 9; }", 1);
            Check.feed(h, texts[i]);
            Check.due("module() of " + texts[i], -11 - i, h.module());
            Check.due("the var of the run", 8, h.value(0));
            Check.due("the run goes on", 1, h.run(1));
            Check.due("its var", 9, h.value(0));
            Check.due("declared(9)", 2, h.declared(9));
            Check.due("feed behind the fault " + (i + 1), 1, h.feed(' ', 1));
        }
        House h = new House();
        h.feed(0, 1);
        Check.due("module()", -11, h.module());
        Check.due("module() of the empty tape", 0, h.module());
        Check.due("begin()", 0, h.begin());
    }

    private static void tokens() {
        Check.fits("var abcdefgh;var b=999999999;var c=-999999999;");
        Check.fits("var\na1b2\n=\n-\n5\n;");
        Check.fault(1, "var @abcdefghi;");
        Check.fault(1, "var a = @1234567890;");
        Check.fault(1, "var a = @0000000001;");
        Check.fault(1, "var a@\t;");
        Check.fault(1, "var a@\r;");
        Check.fault(1, "var @A;");
        Check.fault(1, "@&");
        Check.fault(1, "var a@:;");
        Check.fault(1, "var a@_b;");
        Check.fault(1, "var a;@\u00ff");
        Check.fault(1, "@\u0000");
        Check.fault(1, "@variables x;");
        Check.fault(2, "@variable x;");
        Check.fault(2, "var a = 12@ab;");
        Check.fault(2, "var @while;");
        Check.fault(2, "var @any;");
        Check.fault(2, "@vara;");
        Check.fits("task t 1{log 1<2;log 3>2;log 1=2;log 4/2%2*3-1+1;}");
    }

    private static void grammar() {
        Check.fits("");
        Check.fits("var a;row b;sema c 3;bolt d;irpt e;in f;out g;proc h(){}proc i(x){}proc j(x,y,z){}task k 1{}task l 9 main{}");
        Check.fault(2, "@;");
        Check.fault(2, "@5");
        Check.fault(2, "row r; @5");
        Check.fault(2, "row r; @r");
        Check.fault(2, "@log 1;");
        Check.fault(2, "var @= 1;");
        Check.fault(2, "var a = @;");
        Check.fault(2, "var a = - @- 1;");
        Check.fault(2, "var a @1;");
        Check.fault(2, "row r @= 1;");
        Check.fault(2, "sema s@;");
        Check.fault(2, "sema s @- 1;");
        Check.fault(2, "bolt b @bolt c;");
        Check.fault(2, "proc p @{}");
        Check.fault(2, "proc p(@,) {}");
        Check.fault(2, "proc p(a @b) {}");
        Check.fault(2, "proc p(a,@) {}");
        Check.fault(2, "proc p() @;");
        Check.fault(2, "task t @main {}");
        Check.fault(2, "task t 1 main @main {}");
        Check.fault(2, "task t 1 {@");
        Check.fault(2, "task t 1 {} @}");
        Check.fault(2, "task t 1 { @; }");
        Check.fault(2, "task t 1 { @{ } }");
        Check.fault(2, "task t 1 { on @x {} }");
        Check.fault(2, "task t 1 { on 1 @log 1; }");
        Check.fault(2, "task t 1 { log 1; @on 1 {} }");
        Check.fault(2, "task t 1 { @else {} }");
        Check.fault(2, "task t 1 { @main }");
        Check.fits("task t 1 { on 1 { on 1 {} on 2 {} } on any {} on 2 {} log 1; }");
    }

    private static void statements() {
        String head = "var a;row r;sema s 1;bolt b;irpt i;in n;out o;proc p(x,y){return x;}proc q(){}task t 1{";
        String[] good = {"a=1;", "r[1]=2;", "do q();", "a=do p(1,2);", "if 1{}", "if 1{}else{}", "while a{}", "make r 3;", "same r r;",
            "lose r;", "ask s;", "ask s,s,s,s;", "give s;", "give s,s;", "reserve b;", "free b;", "enter b;", "leave b;", "start t;",
            "go t;", "at 1 start t;", "after 1 go t;", "all 1 start t;", "all 1 until 2 go t;", "when i start t;", "end;", "end t;",
            "hold t;", "prior t 1;", "prevent t;", "induce 1;", "take n a;", "put o 1;", "pull i;", "enable i;", "disable i;", "log 1;",
            "log a;", "log r[a];", "log size r;", "log time;", "log state t;", "log -1;", "log (1);", "log --1;", "log 1=(2=3);"};
        for (String s : good) {
            Check.fits(head + s + "}");
        }
        String[] bad = {"@return 1;", "a @1;", "a=@;", "r[@]=1;", "r[1=1@;", "r[1]@;", "do @;", "do q@;", "do q(@,);", "do q(1@;",
            "a=do @1();", "if @{}", "if 1 @;", "if 1 {} else @;", "while @{}", "make @3;", "make r@;", "same r@;", "same r r @r;", "lose@;",
            "ask@;", "ask s,@;", "ask s @s;", "reserve@;", "free @1;", "start@;", "go @do;", "at @start t;", "at 1 @hold t;",
            "at 1@;", "all 1 until @start t;", "after 1 @until 2 start t;", "when @1 start t;", "when i@;", "end @1;", "end t @t;",
            "hold@;", "prior t@;", "prior @1;", "prevent@;", "induce@;", "take n@;", "take n a @a;", "put o@;", "pull@;",
            "enable@;", "disable @1;", "log@;", "log 1@", "log 1 @2;", "log 1=2@=3;", "log 1<2@>3;", "log 1+@;", "log @*1;",
            "log (1@;", "log (@);", "log size@;", "log size @1;", "log state@;", "log r[1@;", "log @+1;", "log time@[1];", "log 1@[1];"};
        for (String s : bad) {
            String whole = head + s + "}";
            Check.fault(2, whole);
        }
        Check.fits(head + "r [1]=2;r\n[ 1 ] =r  [2];log -r\n\n[0];a =1;}");
        Check.fits("proc p(){on any{return 1;}if 1{return 2;}while 1{return time;}}");
    }

    private static void tooMany() {
        String[] words = {"var", "row", "sema", "bolt", "irpt", "in", "out"};
        int[] most = {8, 4, 4, 4, 4, 4, 4};
        for (int w = 0; w < words.length; w++) {
            StringBuilder text = new StringBuilder();
            for (int i = 0; i < most[w]; i++) {
                text.append(words[w]).append(" x").append(i).append(w == 2 ? " 1;" : ";");
            }
            Check.fits(text.toString());
            Check.fault(3, text + words[w] + " @x9;");
            Check.fault(3, text + words[w] + " @x0;");
        }
        Check.fits("in a;in b;out c;out d;");
        Check.fault(3, "in a;in b;out c;out d;in @e;");
        Check.fault(3, "in a;in b;in c;out d;out @e;");
        String procs = "proc a(){}proc b(){}proc c(){}proc d(){}proc e(){}proc f(){}";
        Check.fits(procs);
        Check.fault(3, procs + "proc @g(){}");
        String tasks = "task a 1{}task b 1{}task c 1{}task d 1{}task e 1{}task f 1{}task g 1{}task h 1{}";
        Check.fits(tasks);
        Check.fault(3, tasks + "task @i 1{}");
        Check.fault(3, "proc p(a,b,c,@d){}");
        Check.fault(3, "proc p(a,b,c,@a){}");
        Check.fault(2, "proc p(a,b,c,@1){}");
        Check.fits("sema s 1;task t 1{ask s,s,s,s;give s,s,s,s;}");
        Check.fault(3, "sema s 1;task t 1{ask s,s,s,s,@s;}");
        Check.fault(3, "sema s 1;task t 1{give s,s,s,s,@s;}");
        Check.fault(2, "sema s 1;task t 1{give s,s,s,s,@1;}");
        Check.fits("proc p(a,b,c){}task t 1{do p(1,2,3);}");
        Check.fault(3, "proc p(a,b,c){}task t 1{do p(1,2,3,@4);}");
        Check.fault(3, "proc p(a,b,c){}task t 1{do p(1,2,3,@-4);}");
        for (String e : new String[] {"a", "(1)", "size r", "time", "state t"}) {
            Check.fault(3, "var a;row r;proc p(a,b,c){}task t 1{do p(1,2,3,@" + e + ");}");
        }
        Check.fault(2, "proc p(a,b,c){}task t 1{do p(1,2,3,@);}");
        String many = "task t 1{" + Check.times(200, "end;");
        House h = Check.read(many + "}");
        Check.due("declared(9)", 200, h.declared(9));
        Check.fault(3, many + "@end;}");
        Check.fault(3, many + "@if 1{}}");
        Check.fault(2, many + "@return 1;}");
        Check.fault(2, many + "@;}");
        Check.fits("task t 1{" + Check.times(199, "end;") + "if 1{}}");
        Check.fault(3, "task t 1{" + Check.times(199, "end;") + "if 1{@end;}}");
    }

    private static void tooManyNodes() {
        String full = "task t 1{" + Check.times(199, "log 1;") + "log 1" + Check.times(100, "+1");
        House h = Check.read(full + ";}");
        Check.due("declared(10)", 400, h.declared(10));
        Check.fault(3, full + "@+1;}");
        String nearly = "var a;row r;task t 1{" + Check.times(197, "log 1;") + "log 1" + Check.times(101, "+1") + ";";
        Check.due("declared(10)", 400, Check.read(nearly + "}").declared(10));
        for (String e : new String[] {"a", "r[1]", "-1", "2", "size r", "time", "state t"}) {
            Check.fault(3, nearly + "log @" + e + ";}");
        }
        Check.fault(2, nearly + "log @;}");
        Check.fits("row r;task t 1{" + Check.times(198, "log 1;") + "log (1" + Check.times(100, "+1") + ");end;}");
        Check.fault(3, "row r;task t 1{" + Check.times(198, "log 1;") + "log 1" + Check.times(100, "+1") + ";log 1@+1;}");
        Check.fault(3, "row r;task t 1{" + Check.times(198, "log 1;") + "log 1" + Check.times(100, "+1") + ";log -@1;}");
        Check.fault(3, "row r;task t 1{" + Check.times(198, "log 1;") + "log 1" + Check.times(100, "+1") + ";log r[@1];}");
        Check.fits("row r;task t 1{" + Check.times(198, "log 1;") + "log 1" + Check.times(100, "+1") + ";log size r;}");
        Check.fits("row r;task t 1{" + Check.times(198, "log 1;") + "log 1" + Check.times(100, "+1") + ";log state t;}");
        Check.fits("row r;task t 1{" + Check.times(198, "log 1;") + "log 1" + Check.times(100, "+1") + ";log ((time));}");
        Check.fault(3, "row r;task t 1{" + Check.times(198, "log 1;") + "log 1" + Check.times(100, "+1") + ";r[0]=@1;}");
    }

    private static void tooDeep() {
        Check.fits("task t 1" + Check.times(11, "{if 1") + "{log 1;}" + Check.times(11, "}"));
        Check.fits("task t 1{log " + Check.times(11, "(") + "1" + Check.times(11, ")") + ";}");
        Check.fault(3, "task t 1{log " + Check.times(11, "(") + "@(1" + Check.times(12, ")") + ";}");
        Check.fits("task t 1{log " + Check.times(11, "-") + "1;}");
        Check.fault(3, "task t 1{log " + Check.times(11, "-") + "@-1;}");
        Check.fits("row r;task t 1{log " + Check.times(11, "r[") + "1" + Check.times(11, "]") + ";}");
        Check.fault(3, "row r;task t 1{log " + Check.times(11, "r[") + "r@[1" + Check.times(12, "]") + ";}");
        Check.fault(3, "task t 1" + Check.times(12, "{if 1") + "@{" + Check.times(13, "}"));
        Check.fault(3, "task t 1" + Check.times(12, "{on 1") + "@{" + Check.times(13, "}"));
        Check.fault(3, "row r;task t 1" + Check.times(11, "{if 1") + "{r@[0]=1;" + Check.times(12, "}"));
        Check.fits("row r;task t 1" + Check.times(10, "{if 1") + "{r[0]=-1;" + Check.times(11, "}"));
        Check.fits("proc p(a,b){}task t 1" + Check.times(11, "{if 1") + "{do p(1,2-1);" + Check.times(12, "}"));
        Check.fault(3, "proc p(a,b){}task t 1" + Check.times(11, "{if 1") + "{do p(1,@-1);" + Check.times(12, "}"));
        Check.fits("row r;task t 1{log -1" + Check.times(13, "*-1") + ";log r[0]" + Check.times(13, "+r[0]") + ";r[0]=1;r[0]=1;}");
        Check.fits("row r;task t 1{" + Check.times(13, "r[1]=(1);") + Check.times(13, "if 1{}") + "}");
        Check.fits("task t 1{log (1)+(2)+(3)+(4)+(5)+(6)+(7)+(8)+(9)+(10)+(11)+(12)+(13)+-1;}");
    }

    private static void toldAlready() {
        Check.fault(4, "var a;var @a;");
        Check.fault(4, "var a;task @a 1{}");
        Check.fault(4, "in a;out @a;");
        Check.fault(4, "proc a(a){}row @a;");
        Check.fault(4, "proc p(a,b,@a){}");
        Check.fits("proc p(p,a){}proc q(p,a){}var a;var b;");
    }

    private static void spans() {
        Check.fits("sema s 0;sema t 9;sema u 000000009;");
        Check.fault(5, "sema s @10;");
        Check.fits("task t 1{}task u 9{}");
        Check.fault(5, "task t @0{}");
        Check.fault(5, "task t @10 main{}");
        Check.fits("task t 1{on 1{}on 19{}on any{}}");
        Check.fault(5, "task t 1{on @0{}}");
        Check.fault(5, "task t 1{on @20{}}");
        Check.fault(5, "task t 1{on 3{}on 4{}on @3{}}");
        Check.fault(5, "task t 1{on any{}on 4{}on @any{}}");
        Check.fits("task t 1{on 3{on 3{}}if 1{on 3{}}}");
    }

    private static void sortsWanted() {
        String head = "var a;row r;sema s 1;bolt b;irpt i;in n;out o;proc p(x){%s}task t 1{%s}";
        String[] wrong = {"@r=1;", "@z=1;", "@a[0]=1;", "log @r;", "log @a[0];", "log size @a;", "log state @a;", "do @a();", "@t=do p(1);",
            "make @a 1;", "same r @a;", "same @a r;", "lose @s;", "ask @b;", "ask s,@a;", "give @z;", "reserve @s;", "free @r;", "enter @a;",
            "leave @t;", "start @p;", "go @a;", "at 1 start @a;", "when @a start t;", "when i go @i;", "end @a;", "hold @a;",
            "prior @a 1;", "prevent @a;", "take @o a;", "take n @r;", "put @n 1;", "pull @a;", "enable @a;", "disable @a;", "log @p;"};
        for (String s : wrong) {
            Check.fault(6, String.format(head, "", s));
        }
        Check.fault(6, String.format(head, "", "log @x;"));
        Check.fits(String.format(head, "x=x+1;log x;x=do p(x);take n a;", ""));
        Check.fault(6, String.format(head, "take n @x;", ""));
        Check.fault(6, "row x;proc p(x){make @x 1;}");
        Check.fault(6, "row x;proc p(x){log @x[1];}");
        Check.fits("row x;proc p(x){log x;}task t 1{make x 1;}");
        Check.fits("task t 1{a=1;start u;do p();}var a;task u 1{}proc p(){}");
        Check.fault(6, "task t 1{log @b;log c;}var a;");
    }

    private static void misfits() {
        String head = "proc p(x){}proc q(){}";
        Check.fault(7, head + "task t 1{do @p();}");
        Check.fault(7, head + "task t 1{do @q(1);}");
        Check.fault(7, head + "var a;task t 1{do p(1);a=do @p(1,2);do q(1);}");
        Check.fault(6, head + "task t 1{do p();log @z;}");
        Check.fault(7, "task t 1{do @p(1,2);}" + head);
    }

    private static void firstAndLeast() {
        Check.fault(2, "task t 1{log z;} @}");
        Check.fault(4, "task t 1{log z;}var a;var @a;");
        Check.fault(1, "task t 1{log @&;}");
        Check.fault(2, "task t 1{@return &;}");
        Check.fault(1, "var a;var b;var c;var d;var e;var f;var g;var h;var @abcdefghi;");
        Check.fault(2, "var a;var b;var c;var d;var e;var f;var g;var h;var @1;");
        Check.fault(5, "sema s @10 &");
        Check.fault(1, "task t 1{} @&");
    }

    /** What a text left behind, be it at a fault or not, is no part of the next one. */
    private static void readAgain() {
        House h = new House();
        String[] texts = {"sema s 55", "sema s 5", "proc p(){}task t 1{do p(1);}", "task t 1{}", "task t 1" + Check.times(11, "{if 1") + "{&",
            "task t 1" + Check.times(11, "{if 1") + "{" + Check.times(12, "}"), "proc p(x){&", "task t 1{return 1;}", "proc p(x){&", "task t 1{log x;}",
            "row r[", "task t 1{log r", "var a;var b;", "var a;", "proc p(){}", "task p 1{}"};
        int[] due = {-15, -12, -17, 1, -11, 1, -11, -12, -11, -16, -12, -12, 0, 0, 0, 1};
        int[] places = {7, 8, 22, -1, 64, -1, 10, 9, 10, 13, 5, 14, -1, -1, -1, -1};
        for (int i = 0; i < texts.length; i++) {
            Check.feed(h, texts[i]);
            Check.due("module() of " + texts[i], due[i], h.module());
            Check.due("place() of " + texts[i], places[i], h.place());
        }
        h = new House();
        String[] modules = {"bolt b;task t 1{reserve b;}", "bolt b;task t 1{reserve b;}", "task z 1{}task t 1 main{end;}"};
        for (String text : modules) {
            Check.feed(h, text);
            h.module();
        }
        h.begin();
        h.run(1);
        Check.due("end; ends its own task", 0, h.count(4) + h.task(1, 0));
    }

    /** As many blocks as a tape has room for. */
    private static void manyBlocks() {
        StringBuilder text = new StringBuilder("task t 1 main{");
        int blocks = 0;
        for (int i = 1; i <= 19; i++) {
            text.append("on ").append(i).append("{");
            for (int j = 1; j <= 19 && text.length() < 3850; j++) {
                text.append("on ").append(j).append(i == 19 && j == 19 ? "{log 5;}" : j < 10 ? "{on 1{}}" : "{}");
                blocks++;
            }
            text.append("induce ").append(i).append(";}");
        }
        text.append("induce 18;}");
        House h = Check.read(text.toString());
        Check.due("begin()", 1, h.begin());
        h.run(2);
        Check.due("blocks", 1, blocks > 300 ? 1 : 0);
        Check.due("count(5)", 2, h.count(5));
        Check.due("task(0, 0)", 0, h.task(0, 0));
        String small = "on 1{}on 2{}on 3{}on 4{}on 5{}on 6{}on 7{}on 8{}on 9{}";
        text = new StringBuilder("task t 1 main{");
        for (int i = 1; i <= 9; i++) {
            text.append("on ").append(i).append('{');
            for (int j = 1; j <= 6; j++) {
                text.append("on ").append(j).append('{').append(small).append('}');
            }
            text.append("induce 9;}");
        }
        text.append("log 4;induce 9;}");
        h = Check.read(text.toString());
        h.begin();
        h.run(9);
        Check.logs("some 600 blocks", h, 4);
        Check.due("count(4)", 2, h.count(4));
        Check.due("count(5)", 1, h.count(5));
    }
}

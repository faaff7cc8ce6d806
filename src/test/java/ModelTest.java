import java.util.ArrayList;
import java.util.List;
import java.util.Random;

// Texts at random, good ones and broken ones, and runs of them: the class must answer all calls as a second reading of the
// document does (src/test/support/Model.java), which is built in another way.
public final class ModelTest extends Check {
    private static final String[] SIGNS = {"(", ")", "{", "}", "[", "]", ",", ";", "=", "<", ">", "+", "-", "*", "/", "%"};
    private static final String[] OTHERS = {"var", "row", "sema", "task", "main", "on", "any", "do", "return", "else", "while", "until", "size", "time", "state", "at", "when", "end", "log", "go", "a", "r", "t0", "z", "x",
        "p", "0", "5", "20", "999999999", "1000000000", "abcdefgh", "abcdefghi", "&", "A"};

    private final Random random = new Random(1116);
    private int tasks = 0;

    public static void main(String[] args) {
        ModelTest test = new ModelTest();
        for (int i = 0; i < 4000; i++) {
            test.oneRun();
        }
        for (int i = 0; i < 6000; i++) {
            test.oneText(test.broken(test.tokens(test.goodText())));
        }
        for (int i = 0; i < 600; i++) {
            test.oneText(test.tooMuch());
        }
        finish();
    }

    private String pick(String... all) {
        return all[random.nextInt(all.length)];
    }

    private boolean one(int of) {
        return random.nextInt(of) == 0;
    }

    private String task() {
        return "t" + random.nextInt(tasks);
    }

    // ---- texts

    private String goodText() {
        tasks = 2 + random.nextInt(4);
        StringBuilder text = new StringBuilder("var a=" + random.nextInt(4) + ";var b;var c=-" + random.nextInt(9) + ";row r;row q;sema s " + random.nextInt(3) + ";sema u 0;bolt k;bolt l;"
            + "irpt i;irpt j;in n;in m;out o;");
        text.append("proc p(x)").append(block(2, true, 1 + random.nextInt(2)));
        text.append("proc w(x,y)").append(block(1, true, 1 + random.nextInt(3))).append("proc e(){}");
        for (int t = 0; t < tasks; t++) {
            text.append("task t").append(t).append(' ').append(1 + random.nextInt(4)).append(one(4) ? "" : " main");
            String body = block(2, false, 1 + random.nextInt(5));
            text.append(one(2) ? body : "{while 1" + body.replaceFirst("\\{(?!on any)", one(3) ? "{" : "{on any{}").replaceFirst("on any\\{\\}(.*)on any", "$1on any") + "}");
        }
        return text.toString();
    }

    private String block(int deep, boolean proc, int many) {
        StringBuilder text = new StringBuilder("{");
        if (one(4)) {
            text.append("on ").append(1 + random.nextInt(9)).append(deep > 0 && one(2) ? block(deep - 1, proc, random.nextInt(2)) : "{}");
        }
        if (one(5)) {
            text.append("on any").append(deep > 0 ? block(deep - 1, proc, random.nextInt(3)) : "{}");
        }
        for (int i = 0; i < many; i++) {
            text.append(statement(deep, proc));
        }
        return text.append('}').toString();
    }

    private String statement(int deep, boolean proc) {
        switch (random.nextInt(deep > 0 ? 26 : 22)) {
            case 0: return pick("a", "b", "c", proc ? "x" : "a") + "=" + e(2, proc) + ";";
            case 1: return pick("r", "q") + "[" + e(1, proc) + "]=" + e(1, proc) + ";";
            case 2: return pick("", "a=", proc ? "x=" : "b=") + pick("do p(" + e(1, proc) + ");", "do w(" + e(1, proc) + "," + e(1, proc) + ");", "do e();");
            case 3: return proc ? "return " + e(2, proc) + ";" : "log " + e(2, proc) + ";";
            case 4: return "make " + pick("r ", "q ") + pick("3", "1", "20", e(1, proc)) + ";";
            case 5: return pick("same r q;", "same q r;", "lose r;", "lose q;");
            case 6: return pick("ask s;", "ask u;", "ask s,u;", "ask s,s;", "ask u,s,u;");
            case 7: return pick("give s;", "give u;", "give s,u;", "give u,u,u;");
            case 8: return pick("reserve k;", "reserve l;", "free k;", "free l;");
            case 9: return pick("enter k;", "enter l;", "leave k;", "leave l;");
            case 10: return "start " + task() + ";";
            case 11: return "go " + task() + ";";
            case 12: return when(proc) + pick("start ", "go ") + task() + ";";
            case 13: return when(proc) + pick("start ", "go ", "go ") + task() + ";";
            case 14: return one(3) ? "end;" : one(2) ? "end " + task() + ";" : "prevent " + task() + ";";
            case 15: return "hold " + task() + ";";
            case 16: return "prior " + task() + " " + pick("1", "2", "3", "9", e(1, proc)) + ";";
            case 17: return "induce " + pick("3", "7", "12", e(1, proc)) + ";";
            case 18: return "take " + pick("n ", "m ") + pick("a;", "b;");
            case 19: return "put o " + e(1, proc) + ";";
            case 20: return pick("pull ", "pull ", "enable ", "disable ") + pick("i;", "j;");
            case 21: return "log " + e(2, proc) + ";";
            case 22: return "if " + e(1, proc) + block(deep - 1, proc, random.nextInt(3)) + (one(2) ? "else" + block(deep - 1, proc, random.nextInt(3)) : "");
            case 23: return "if 1" + block(deep - 1, proc, 1 + random.nextInt(3));
            case 24: return "while " + pick("a<3", "b<2", "c<1") + block(deep - 1, proc, random.nextInt(3)).replaceFirst("\\}$", pick("a=a+1;", "b=b+1;", "c=c+1;") + "}");
            default: return "while " + e(1, proc) + block(deep - 1, proc, random.nextInt(3));
        }
    }

    private String when(boolean proc) {
        String early = pick("1", "2", "3", "5", e(1, proc));
        return pick("at time+" + early + " ", "at " + e(1, proc) + " ", "after " + early + " ", "all " + early + " ", "all " + early + " until time+" + random.nextInt(20) + " ", "when i ", "when j ");
    }

    private String e(int deep, boolean proc) {
        switch (random.nextInt(deep > 0 ? 17 : 10)) {
            case 0: case 1: case 2: return "" + random.nextInt(6);
            case 3: case 4: case 5: return pick("a", "b", "c");
            case 6: return proc ? "x" : "time";
            case 7: return "state " + task();
            case 8: return pick("size r", "size q", "999999999", "0", "20");
            case 9: return "time";
            case 10: return pick("r[", "q[") + e(deep - 1, proc) + "]";
            case 11: return "-" + e(0, proc);
            case 12: return "(" + e(deep - 1, proc) + ")";
            default: return e(deep - 1, proc) + pick("+", "-", "*", "/", "%") + e(deep - 1, proc) + (one(4) ? pick("=", "<", ">") + e(0, proc) : "");
        }
    }

    /** More of something than there may be. */
    private String tooMuch() {
        tasks = 2;
        String head = "var a;row r;proc p(x,y){}task t0 1{}task t1 2{";
        int many = 8 + random.nextInt(8);
        switch (random.nextInt(6)) {
            case 0: return head + times(180 + random.nextInt(40), pick("end;", "a=1;", "if a{}", "r[0]=a;")) + "}";
            case 1: return head + times(40 + random.nextInt(40), "log 1+" + pick("a", "(a)", "-a", "r[1]", "size r", "state t0") + "*2-time;") + "}";
            case 2: return head + "log " + times(many, pick("(", "-", "(-", "r[")) + "1;}";
            case 3: return head + times(many, pick("if 1{", "while a{", "on 3{", "if -(1){")) + "log " + pick("1", "-1", "(1)", "r[1]") + ";" + times(many + 1, "}");
            case 4: return head + "}" + times(1, "var b;row q;sema s 1;in n;out o;") + pick("var ", "row ", "in ", "proc ") + "v1" + pick(";", "(){}") + times(9, pick("row ", "var ", "irpt ", "out ") + "v" + random.nextInt(20) + ";");
            default: return head + "do p(" + times(random.nextInt(5), pick("1,", "a,", "-1,", "size r,")) + pick("1", "(2)", "time", ")") + ");}";
        }
    }

    private List<String> tokens(String text) {
        List<String> all = new ArrayList<>();
        for (int i = 0; i < text.length(); i++) {
            int from = i;
            while (i + 1 < text.length() && Character.isLetterOrDigit(text.charAt(i)) && Character.isLetterOrDigit(text.charAt(i + 1))) {
                i++;
            }
            if (text.charAt(i) != ' ') {
                all.add(text.substring(from, i + 1));
            }
        }
        return all;
    }

    private String broken(List<String> tokens) {
        for (int i = random.nextInt(3); i >= 0; i--) {
            int at = random.nextInt(tokens.size() - 1);
            switch (random.nextInt(9)) {
                case 0: tokens.remove(at); break;
                case 1: tokens.add(at, tokens.get(random.nextInt(tokens.size()))); break;
                case 2: tokens.set(at, tokens.get(random.nextInt(tokens.size()))); break;
                case 3: tokens.set(at, one(2) ? pick(SIGNS) : pick(OTHERS)); break;
                case 4: tokens.add(at, one(2) ? pick(SIGNS) : pick(OTHERS)); break;
                case 5: case 6: replace(tokens, "[a-z]|t[0-9]", pick("a", "r", "s", "k", "i", "n", "o", "p", "w", "e", "t0", "x", "y", "z")); break;
                case 7: replace(tokens, "[0-9]+", "" + random.nextInt(25)); break;
                default: replace(tokens, "var|row|sema|bolt|irpt|in|out", pick("var", "row", "bolt", "irpt", "in", "out")); break;
            }
        }
        String text = String.join(" ", tokens).replaceAll(" ([^a-z0-9])", "$1").replaceAll("([^a-z0-9]) ", "$1");
        return one(10) ? text.substring(0, random.nextInt(text.length())) : text;
    }

    /** One token of a kind becomes another one. */
    private void replace(List<String> tokens, String kind, String by) {
        int from = random.nextInt(tokens.size());
        for (int i = 0; i < tokens.size(); i++) {
            int at = (from + i) % tokens.size();
            if (tokens.get(at).matches(kind)) {
                tokens.set(at, by);
                return;
            }
        }
    }

    // ---- comparing

    private Model model(House h, String text, int processors) {
        feed(h, text);
        try {
            Model model = new Model(text, processors);
            due("module() of " + text, model.tasks(), h.module());
            due("place() of " + text, NONE, h.place());
            for (int sort = 0; sort <= 10; sort++) {
                due(model.declared(sort), h.declared(sort));
            }
            return model;
        } catch (Model.Fault fault) {
            due("module() of " + text, -10 - fault.number, h.module());
            due("place() of " + text, fault.place, h.place());
            return null;
        }
    }

    private void oneText(String text) {
        if (text.length() <= 3900) {
            model(new House(), text, 1);
        }
    }

    private void oneRun() {
        String text = goodText();
        if (text.length() > 1500) {
            return;
        }
        House h = new House();
        int processors = 1 + random.nextInt(3);
        h.processors(processors);
        Model model = model(h, text, processors);
        if (model == null) {
            return;
        }
        due("begin() of " + text, model.ready(), h.begin());
        StringBuilder calls = new StringBuilder(" of " + text);
        for (int i = random.nextInt(14); i >= 0; i--) {
            int n = one(4) ? 40 : 1 + random.nextInt(6);
            due("run(" + n + ")" + calls, model.run(n), h.run(n));
            int v = random.nextInt(7) - 1;
            if (one(3)) {
                due("trigger(" + v % 3 + ")" + calls, model.trigger(v % 3), h.trigger(v % 3));
            }
            if (one(3)) {
                due("send(" + v % 3 + ", " + v + ")" + calls, model.send(v % 3, v), h.send(v % 3, v));
            }
        }
        compare(model, h, calls.toString());
    }

    private void compare(Model model, House h, String of) {
        for (int i = 0; i <= 9; i++) {
            due("count(" + i + ")" + of, model.count(i), h.count(i));
            due("logged(" + i + ")" + of, model.logged(i), h.logged(i));
            due("induced(" + i + ", 1)" + of, model.induced(i, 1), h.induced(i, 1));
            due("induced(" + i + ", 2)" + of, model.induced(i, 2), h.induced(i, 2));
        }
        for (int t = 0; t < tasks; t++) {
            for (int what = 0; what <= 8; what++) {
                due("task(" + t + ", " + what + ")" + of, model.task(t, what), h.task(t, what));
            }
            for (int k = 0; k < 8; k++) {
                due("schedule(" + t + ", " + k / 4 + ", " + k % 4 + ")" + of, model.schedule(t, k / 4, k % 4), h.schedule(t, k / 4, k % 4));
            }
            due("ring(" + t + ")" + of, model.ring(t), h.ring(t));
            due("bolt(0, " + (t + 2) + ")" + of, model.bolt(0, t + 2), h.bolt(0, t + 2));
            due("bolt(1, " + (t + 2) + ")" + of, model.bolt(1, t + 2), h.bolt(1, t + 2));
        }
        for (int i = 0; i <= 2; i++) {
            due("value(" + i + ")" + of, model.value(i), h.value(i));
            due("sema(" + i + ")" + of, model.sema(i), h.sema(i));
            due("item(" + i + ", 0)" + of, model.item(i, 0), h.item(i, 0));
            due("item(" + i + ", NONE)" + of, model.item(i, NONE), h.item(i, NONE));
            due("bolt(" + i + ", 0)" + of, model.bolt(i, 0), h.bolt(i, 0));
            due("sent(0, " + (i - 1) + ")" + of, model.sent(0, i - 1), h.sent(0, i - 1));
            for (int k = 0; k <= 2; k++) {
                due("irpt(" + i + ", " + k + ")" + of, model.irpt(i, k), h.irpt(i, k));
                due("one(" + i + ", " + k + ")" + of, model.one(i, k), h.one(i, k));
                due("waits(2, " + i + ", " + k + ")" + of, model.waits(2, i, k), h.waits(2, i, k));
                due("waits(3, " + i + ", " + k + ")" + of, model.waits(3, i, k), h.waits(3, i, k));
                due("waits(5, " + i + ", " + k + ")" + of, model.waits(5, i, k), h.waits(5, i, k));
            }
        }
    }
}

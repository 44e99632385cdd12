/** Promises 12 and 17: holds, what a POLICY fits, and what an EXPR is worth. */
public final class HoldsTest {
    private static final String HEAD = "permit(_,_,_)";

    public static void main(String[] args) {
        wrongNumbers();
        fitting();
        truths();
        sorts();
        grouping();
        attributes();
        errorsInOrder();
        overflows();
        conditions();
        Due.end("HoldsTest");
    }

    /** ENTITIES 0 (x 5, y true, z the entity 1), 1 (x the least int), 2; 0 IN 1 IN 2. */
    private static PolicyForge world() {
        PolicyForge x = new PolicyForge();
        for (int e = 0; e < 3; e++) {
            x.entity(e, e);
        }
        x.parent(0, 1);
        x.parent(1, 2);
        x.set(0, 0, 1, 5);
        x.set(0, 1, 2, 1);
        x.set(0, 2, 3, 1);
        x.set(1, 0, 1, Integer.MIN_VALUE);
        return x;
    }

    private static PolicyForge worldWith(String text) {
        PolicyForge x = world();
        Due.policy(x, 0, text);
        return x;
    }

    /** An EXPR asked with p 0 and r 1. */
    private static void worth(String expr, boolean want) {
        PolicyForge x = worldWith(HEAD + "when{" + expr + "}");
        Due.is(expr, want, () -> x.holds(0, 0, 0, 1));
        PolicyForge y = worldWith(HEAD + "unless{" + expr + "}");
        Due.is("unless " + expr, !want, () -> y.holds(0, 0, 0, 1));
    }

    private static void badType(String expr) {
        PolicyForge x = worldWith(HEAD + "when{" + expr + "}");
        Due.badType(expr, () -> x.holds(0, 0, 0, 1));
    }

    private static void missing(String expr) {
        PolicyForge x = worldWith(HEAD + "when{" + expr + "}");
        Due.noSuch(expr, () -> x.holds(0, 0, 0, 1));
    }

    private static void overflow(String expr) {
        PolicyForge x = worldWith(HEAD + "when{" + expr + "}");
        Due.overflow(expr, () -> x.holds(0, 0, 0, 1));
    }

    private static void wrongNumbers() {
        PolicyForge x = worldWith(HEAD);
        for (int n : new int[] {-1, 16, Integer.MIN_VALUE, Integer.MAX_VALUE}) {
            Due.refused("policy " + n, () -> x.holds(n, 0, 0, 0));
            Due.refused("p " + n, () -> x.holds(0, n, 0, 0));
            Due.refused("action " + n, () -> x.holds(0, 0, n, 0));
            Due.refused("r " + n, () -> x.holds(0, 0, 0, n));
        }
        Due.refused("policy 6", () -> x.holds(6, 0, 0, 0));
        Due.refused("action 10", () -> x.holds(0, 0, 10, 0));
        Due.badState("no policy", () -> x.holds(1, 0, 0, 0));
        Due.refused("wrong numbers come before no policy", () -> x.holds(1, 16, 0, 0));
        Due.is("the last numbers", true, () -> x.holds(0, 15, 9, 15));
    }

    private static void fits(String head, int p, int action, int r, boolean want) {
        PolicyForge x = worldWith(head);
        Due.is(head + " for " + p + " " + action + " " + r, want, () -> x.holds(0, p, action, r));
        PolicyForge y = worldWith(head + "when{1}");
        Object due = want ? "java.lang.UnsupportedOperationException" : (Object) false;
        Due.is(head + " when{1}", due, () -> y.holds(0, p, action, r));
    }

    private static void fitting() {
        fits("permit(_,_,_)", 9, 9, 9, true);
        fits("forbid(_,_,_)", 0, 0, 0, true);
        fits("permit(@1,_,_)", 1, 0, 0, true);
        fits("permit(@1,_,_)", 0, 0, 1, false);
        fits("permit(in @1,_,_)", 0, 0, 2, true);
        fits("permit(in @1,_,_)", 1, 0, 2, true);
        fits("permit(in @1,_,_)", 2, 0, 0, false);
        fits("permit(in @9,_,_)", 9, 0, 0, true);
        fits("permit(in @9,_,_)", 0, 0, 0, false);
        fits("permit(in @2,_,_)", 0, 0, 0, true);
        fits("permit(_,7,_)", 0, 7, 0, true);
        fits("permit(_,7,_)", 0, 6, 0, false);
        fits("permit(_,0,_)", 0, 0, 0, true);
        fits("permit(_,0,_)", 0, 1, 0, false);
        fits("permit(_,_,@2)", 0, 0, 2, true);
        fits("permit(_,_,@2)", 2, 0, 1, false);
        fits("permit(_,_,in @2)", 9, 0, 0, true);
        fits("permit(_,_,in @2)", 0, 0, 9, false);
        fits("permit(@0,3,in @1)", 0, 3, 1, true);
        fits("permit(@0,3,in @1)", 0, 3, 2, false);
        fits("permit(@0,3,in @1)", 1, 3, 1, false);
        fits("permit(@0,3,in @1)", 0, 4, 1, false);
    }

    private static void truths() {
        worth("true", true);
        worth("false", false);
        worth("!true", false);
        worth("!!true", true);
        worth("true&&true", true);
        worth("true&&false", false);
        worth("false||true", true);
        worth("false||false", false);
        worth("1<2", true);
        worth("2<2", false);
        worth("2<=2", true);
        worth("3<=2", false);
        worth("-1<0", true);
        worth("1==1", true);
        worth("1!=1", false);
        worth("2+3*4==14", true);
        worth("p in r", true);
        worth("r in p", false);
        worth("p in p", true);
        worth("p in @2", true);
        worth("@9 in @9", true);
        worth("@9 in @2", false);
        worth("p==@0", true);
        worth("p==r", false);
        worth("p!=r", true);
        worth("r==@01", true);
    }

    private static void sorts() {
        worth("1==true", false);
        worth("0==false", false);
        worth("1!=true", true);
        worth("0==p", false);
        worth("p!=0", true);
        worth("true==r", false);
        worth("(1==1)==true", true);
        worth("@1==1", false);
        badType("1");
        badType("p");
        badType("1+1");
        badType("@3");
        badType("!1");
        badType("!p");
        badType("-true==1");
        badType("-p==1");
        badType("1+true==1");
        badType("true+1==1");
        badType("p-1==1");
        badType("1*p==1");
        badType("1<true");
        badType("p<1");
        badType("p<=r");
        badType("1 in p");
        badType("p in true");
        badType("1 has x");
        badType("true has x");
        badType("1.x==1");
        badType("p.x.x==1");
        badType("p.y.x==1");
        badType("p.y has x");
        badType("1&&true");
        badType("true&&1");
        badType("p||true");
        badType("false||p");
    }

    private static void grouping() {
        worth("9-4-3==2", true);
        worth("9-(4-3)==8", true);
        worth("2*3-4*5==-14", true);
        worth("-2*3==-6", true);
        worth("--2==2", true);
        worth("1--1==2", true);
        worth("!false==true", true);
        worth("!(false==true)", true);
        worth("true||true&&false", true);
        worth("(true||true)&&false", false);
        worth("false&&false||true", true);
        worth("false&&(false||true)", false);
        worth("1+1<3&&2*2<=4", true);
        worth("-p.x==-5", true);
        worth("2-p.x*2==-8", true);
        worth("(p).x==5", true);
        worth("(p.z).x<0", true);
    }

    private static void attributes() {
        worth("p has x", true);
        worth("p has y&&p has z", true);
        worth("r has x", true);
        worth("r has y", false);
        worth("@9 has x", false);
        worth("p.z has x", true);
        worth("p.z has y", false);
        worth("p.x==5", true);
        worth("p.y", true);
        worth("p.z==r", true);
        worth("p.z==@1", true);
        worth("p.z.x<-999999", true);
        worth("p.z in @2", true);
        worth("@0.x<6", true);
        missing("r.y");
        missing("r.z.x==1");
        missing("@9.x==1");
        missing("@2.x<1");
        missing("p.z.y");
        PolicyForge x = worldWith(HEAD + "when{p has x}");
        Due.is("has for one that is not there", false, () -> x.holds(0, 9, 0, 0));
        PolicyForge y = worldWith(HEAD + "when{p.x==1}");
        Due.noSuch("an attribute of one that is not there", () -> y.holds(0, 9, 0, 0));
    }

    private static void errorsInOrder() {
        worth("false&&r.y", false);
        worth("true||r.y", true);
        worth("false&&1", false);
        worth("true||p", true);
        missing("true&&r.y");
        missing("false||r.y");
        missing("r.y&&1");
        badType("1&&r.y");
        badType("1||r.y");
        missing("1+r.y<true");
        missing("true+r.y<1");
        missing("r.y+true<1");
        missing("true<r.y");
        missing("1 in r.y");
        missing("1==r.y");
        missing("r.y!=1");
        badType("(1+true)<r.y");
        badType("(1+true)==r.y");
        overflow("r.x-1<r.y");
        missing("r.y<r.x-1");
        badType("!1==r.y");
        missing("!r.y");
        missing("-r.y==1");
        missing("r.y has x");
        overflow("true+(r.x-1)==1");
    }

    private static void overflows() {
        overflow("-r.x==1");
        overflow("r.x-1==1");
        overflow("-1+r.x==1");
        overflow("r.x*-1==1");
        overflow("r.x+r.x==0");
        overflow("r.x*r.x==0");
        overflow("0-r.x==0");
        overflow("999999*999999==0");
        worth("r.x+1<0", true);
        worth("r.x*1==r.x", true);
        worth("-(r.x+1)<0", false);
        worth("r.x-r.x==0", true);
        worth("-1-r.x==-(r.x+1)", true);
        overflow("-(r.x+1)+1==0");
        worth("r.x<-(r.x+1)", true);
        worth("-(r.x+1)<=r.x", false);
        worth("46340*46340<0", false);
        worth("65536*32767<0", false);
        overflow("65536*32768==0");
        worth("-65536*32768==r.x", true);
    }

    private static void conditions(String behind, Object want) {
        PolicyForge x = worldWith(HEAD + behind);
        Due.is(behind, want, () -> x.holds(0, 0, 0, 1));
    }

    private static void conditions() {
        String type = "java.lang.UnsupportedOperationException";
        String missing = "java.util.NoSuchElementException";
        conditions("", true);
        conditions("when{true}unless{false}", true);
        conditions("when{true}unless{true}", false);
        conditions("unless{false}when{false}", false);
        conditions("when{false}when{1}", false);
        conditions("unless{true}when{1}", false);
        conditions("when{true}when{1}", type);
        conditions("unless{false}unless{p}", type);
        conditions("unless{1}", type);
        conditions("unless{r.y}when{false}", missing);
        conditions("when{1}when{r.y}", type);
        conditions("when{r.y}when{1}", missing);
        conditions("when{true}when{true}when{true}when{true}when{true}when{1}", type);
        conditions("when{true}when{true}when{true}when{true}unless{1<1}", true);
    }
}

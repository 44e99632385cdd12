/** Promises 3, 4, 5 and 17: policy, where, drop, and what becomes of THE TEXT. */
public final class PolicyTest {
    private static final String HEAD = "permit(_,_,_)";
    private static final String WHEN = "permit(_,_,_)when{";

    public static void main(String[] args) {
        tokens();
        stateOfPolicies();
        faultsOfHeads();
        faultsOfTokens();
        faultsOfExpressions();
        depths();
        fullTexts();
        shorterTexts();
        Due.end("PolicyTest");
    }

    private static void count(String text, int tokens) {
        PolicyForge x = new PolicyForge();
        Due.write(x, text);
        Due.is("policy of " + text, tokens, () -> x.policy(5));
        Due.is("where of " + text, PolicyForge.NONE, x::where);
        Due.is("tokens of " + text, tokens, () -> x.count(15));
        Due.is("characters behind " + text, 0, () -> x.count(0));
    }

    private static void tokens() {
        count("permit(_,_,_)", 8);
        count("forbid(_,_,_)", 8);
        count("  forbid ( _ , _ , _ )  ", 8);
        count("permit(@0,0,@15)", 8);
        count("permit(@00,000009,@09)", 8);
        count("permit(in@1,9,in @2)", 10);
        count(WHEN + "true}", 12);
        count(HEAD + "unless{false}when{1}", 16);
        count(WHEN + "p.x<1}", 16);
        count(WHEN + "1==1}", 14);
        count(WHEN + "r has x&&p has y||1!=2}", 22);
        count(WHEN + "p in@3}", 14);
        count(WHEN + "1<=2}", 14);
        count(WHEN + "1+2-3*4}", 18);
        count(WHEN + "1--1}", 15);
        count(WHEN + "!!true}", 14);
        count(WHEN + "!(1!=2)}", 17);
        count(WHEN + "1<-1}", 15);
        count(WHEN + "999999}", 12);
        count(WHEN + "000000}", 12);
        count(WHEN + "p.x.y.z}", 18);
        count(WHEN + "@1.x}", 14);
        count(WHEN + "1.x}", 14);
        count(WHEN + "(1<2)<(3<4)}", 22);
    }

    private static void stateOfPolicies() {
        PolicyForge x = new PolicyForge();
        Due.write(x, HEAD);
        Due.refused("policy -1", () -> x.policy(-1));
        Due.refused("policy 6", () -> x.policy(6));
        Due.is("the text stays", 13, () -> x.count(0));
        Due.is("where of no such policy", PolicyForge.NONE, x::where);
        Due.is("policy 0", 8, () -> x.policy(0));
        Due.refused("an empty text", () -> x.policy(0));
        Due.is("where of an empty text", 0, x::where);
        Due.is("the policy stays", 8, () -> x.count(10));
        Due.is("it still permits", true, () -> x.ask(0, 0, 0));
        Due.write(x, "forbid(_,_,_)when{p}}");
        Due.refused("a wrong text", () -> x.policy(0));
        Due.is("where", 20, x::where);
        Due.is("where again", 20, x::where);
        Due.is("the text is empty", 0, () -> x.count(0));
        Due.is("the policy still stays", 8, () -> x.count(10));
        Due.is("and still permits", true, () -> x.holds(0, 0, 0, 0));
        Due.refused("policy 6 behind a fault", () -> x.policy(6));
        Due.is("where behind it", PolicyForge.NONE, x::where);
        Due.policy(x, 0, "forbid(_,_,_)when{true}");
        Due.is("another policy", 12, () -> x.count(10));
        Due.is("it forbids", false, () -> x.ask(0, 0, 0));
        Due.policy(x, 5, HEAD);
        Due.is("two policies", 2, () -> x.count(1));
        Due.is("drop", true, () -> x.drop(0));
        Due.is("one policy", 1, () -> x.count(1));
        Due.is("dropped", PolicyForge.NONE, () -> x.count(10));
        Due.is("drop again", false, () -> x.drop(0));
        Due.is("the other one permits", true, () -> x.ask(0, 0, 0));
        Due.badState("holds of a dropped one", () -> x.holds(0, 0, 0, 0));
        Due.noSuch("check of a dropped one", () -> x.check(0));
        Due.refused("drop -1", () -> x.drop(-1));
        Due.refused("drop 6", () -> x.drop(6));
        Due.write(x, "permit");
        Due.refused("a fault for a dropped one", () -> x.policy(0));
        Due.is("it is not there", PolicyForge.NONE, () -> x.count(10));
        Due.policy(x, 0, HEAD);
        Due.is("it is there again", 8, () -> x.count(10));
    }

    private static void faultsOfHeads() {
        Due.fault("", 0);
        Due.fault("   ", 3);
        Due.fault("permit", 6);
        Due.fault("permit  ", 8);
        Due.fault("  when", 2);
        Due.fault("permit permit", 7);
        Due.fault("permit_", 6);
        Due.fault("permit()", 7);
        Due.fault("permit(1,_,_)", 7);
        Due.fault("permit(in _,_,_)", 10);
        Due.fault("permit(in in @1,_,_)", 10);
        Due.fault("permit(p,_,_)", 7);
        Due.fault("permit(_ _,_)", 9);
        Due.fault("permit(_,@1,_)", 9);
        Due.fault("permit(_,10,_)", 9);
        Due.fault("permit(_,000010,_)", 9);
        Due.fault("permit(_,-1,_)", 9);
        Due.fault("permit(_,in,_)", 9);
        Due.fault("permit(_,_)", 10);
        Due.fault("permit(_,_,_,_)", 12);
        Due.fault("permit(_,_,)", 11);
        Due.fault("permit(_,_,_))", 13);
        Due.fault("permit(_,_,_) permit(_,_,_)", 14);
        Due.fault("permit(_,_,_)when", 17);
        Due.fault("permit(_,_,_)when(true)", 17);
        Due.fault("permit(_,_,_){true}", 13);
        Due.fault("permit(_,_,_)when{}", 18);
        Due.fault("permit(_,_,_)when{true", 22);
        Due.fault("permit(_,_,_)when{true} ; ", 24);
        Due.fault("permit(_,_,_)when unless", 18);
        Due.fault("permit(_,_,_)when{true}}", 23);
    }

    private static void faultsOfTokens() {
        Due.fault("permits(_,_,_)", 0);
        Due.fault("Permit(_,_,_)", 0);
        Due.fault("permit(@16,_,_)", 7);
        Due.fault("permit(@99,_,_)", 7);
        Due.fault("permit(@001,_,_)", 7);
        Due.fault("permit(@,_,_)", 7);
        Due.fault("permit(@ 1,_,_)", 7);
        Due.fault("permit(_,_,_)@", 13);
        Due.fault("permit(_,0000001,_)", 9);
        Due.fault("permit(inn @1,_,_)", 7);
        Due.fault(WHEN + "1000000<1}", 18);
        Due.fault(WHEN + "1<1000000}", 20);
        Due.fault(WHEN + "px}", 18);
        Due.fault(WHEN + "p.xx}", 20);
        Due.fault(WHEN + "p.w}", 20);
        Due.fault(WHEN + "p.xz}", 20);
        Due.fault(WHEN + "p.az}", 20);
        Due.fault(WHEN + "1>2}", 19);
        Due.fault(WHEN + "1=2}", 19);
        Due.fault(WHEN + "1= =2}", 19);
        Due.fault(WHEN + "1===2}", 21);
        Due.fault(WHEN + "1!==2}", 21);
        Due.fault(WHEN + "1&2}", 19);
        Due.fault(WHEN + "1|2}", 19);
        Due.fault(WHEN + "1& &2}", 19);
        Due.fault(WHEN + "1&&&2}", 21);
        Due.fault(WHEN + "1 2 $}", 20);
        Due.fault(WHEN + "1 $ 2}", 20);
        Due.fault(WHEN + "1/2}", 19);
        Due.fault(WHEN + "1}\"", 20);
        Due.fault("#", 0);
        Due.fault("  ~", 2);
    }

    private static void faultsOfExpressions() {
        Due.fault(WHEN + "1<2<3}", 21);
        Due.fault(WHEN + "1==2!=3}", 22);
        Due.fault(WHEN + "p in r in @1}", 25);
        Due.fault(WHEN + "p has x has y}", 26);
        Due.fault(WHEN + "p has x==true}", 25);
        Due.fault(WHEN + "p has 1}", 24);
        Due.fault(WHEN + "p has}", 23);
        Due.fault(WHEN + "p.}", 20);
        Due.fault(WHEN + "p.p}", 20);
        Due.fault(WHEN + "p.1}", 20);
        Due.fault(WHEN + "x}", 18);
        Due.fault(WHEN + "1+}", 20);
        Due.fault(WHEN + "+1}", 18);
        Due.fault(WHEN + "1*+1}", 20);
        Due.fault(WHEN + "1 1}", 20);
        Due.fault(WHEN + "p r}", 20);
        Due.fault(WHEN + "(1}", 20);
        Due.fault(WHEN + "1)}", 19);
        Due.fault(WHEN + "()}", 19);
        Due.fault(WHEN + "true&&}", 24);
        Due.fault(WHEN + "true&&||true}", 24);
        Due.fault(WHEN + "!}", 19);
        Due.fault(WHEN + "-}", 19);
        Due.fault(WHEN + "1!2}", 19);
        Due.fault(WHEN + "_}", 18);
        Due.fault(WHEN + "permit}", 18);
        Due.fault(WHEN + "p has !x}", 24);
        Due.fault(WHEN + "1,2}", 19);
        Due.fault(WHEN + "true", 22);
        Due.fault(WHEN + "true  ", 24);
    }

    private static void depths() {
        count(WHEN + "((((((1))))))}", 24);
        count(WHEN + "!!!!!!true}", 18);
        count(WHEN + "-(-(-(1)))}", 21);
        count(WHEN + "(1)+(((((1)))))}", 26);
        count(WHEN + "((((((1))))))}when{((((((1))))))}", 40);
        Due.fault(WHEN + "(((((((1)))))))}", 25);
        Due.fault(WHEN + "((((((( 1)))))))}", 26);
        Due.fault(WHEN + "!!!!!!!true}", 25);
        Due.fault(WHEN + "-------1}", 25);
        Due.fault(WHEN + "-(-(-(-1)))}", 25);
        Due.fault(WHEN + "(-(-(-(1))))}", 25);
        Due.fault(WHEN + "1+1*((((((-1))))))}", 29);
        Due.fault(WHEN + "(((((((", 25);
        Due.fault(WHEN + "((((((( ", 26);
        Due.fault(WHEN + "((((((()", 25);
        Due.fault(WHEN + "((((((($", 25);
        Due.fault(WHEN + "((((((1)))))))}", 31);
    }

    private static void fullTexts() {
        StringBuilder chain = new StringBuilder(WHEN).append("1");
        for (int i = 0; i < 40; i++) {
            chain.append("+1");
        }
        count(chain + "}", 10 + 81 + 1);
        StringBuilder dots = new StringBuilder(WHEN).append("------p");
        for (int i = 0; i < 37; i++) {
            dots.append(".x");
        }
        count(dots + "}", 10 + 81 + 1);
        StringBuilder whens = new StringBuilder(HEAD);
        for (int i = 0; i < 12; i++) {
            whens.append("when{1}");
        }
        count(whens.toString(), 8 + 48);
        count(whens + "   ", 8 + 48);
        Due.fault("(".repeat(100), 0);
        Due.fault("permit" + "(".repeat(94), 7);
        Due.fault("1".repeat(100), 0);
        Due.fault("p".repeat(100), 0);
        Due.fault("permit(" + "@".repeat(93), 7);
        Due.fault(WHEN + "1" + "+1".repeat(40) + "+", 100);
        Due.fault(WHEN + "true" + " ".repeat(78), 100);
    }

    /** What an earlier, longer text had behind the end of this one does not come to it. */
    private static void shorterTexts() {
        shorter("permit(_,_,_)when{1==1}", "permit(_,_,_)when{1=", 19);
        shorter("permit(_,_,_)when{1&&1}", "permit(_,_,_)when{1&", 19);
        shorter("permit(_,_,_)when{1!=1}", "permit(_,_,_)when{!", 19);
        shorter("permit(_,_,_)when{111111111}", "permit(_,_,_)when{111111", 24);
        shorter("permit(@111", "permit(@1", 9);
        shorter("permits(_,_,_)", "permit", 6);
        shorter("permit(_,_,_)", "permit(_,_,_", 12);
        shorter("permit(_,_,_)    when", "permit(_,_,_  ", 14);
    }

    private static void shorter(String first, String second, int place) {
        PolicyForge x = new PolicyForge();
        Due.write(x, first);
        Due.answer(() -> x.policy(0));
        Due.write(x, second);
        Due.refused("policy of " + second + " behind " + first, () -> x.policy(0));
        Due.is("where of " + second + " behind " + first, place, x::where);
    }
}

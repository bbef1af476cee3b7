/** What tests and sums tell, and how orders are carried out. */
public final class OrdersTest {
    private static final Check CHECK = new Check("OrdersTest");
    private static final String PLACE = "garden g sticks 30 grows 5 thick 3;garden h sticks 7 grows 0 thick 1;"
            + "rack r holds 20;rack s holds 9;peeler p of g to r skill 4;peeler q of h to s skill 1;"
            + "boat b holds 40 speed 5;boat c holds 3 speed 1;river 6 current 2;price second 17;";

    public static void main(String[] args) {
        reckoning();
        comparing();
        joining();
        words();
        wordsChangeInTheirTurn();
        whetting();
        loading();
        resting();
        CHECK.end();
    }

    /** If the test holds in the first hour: a rest is carried out, or not. */
    private static void due(String test, boolean holds) {
        QuillBoats x = Check.told(PLACE + "rest p when " + test + ";");
        x.pass(1);
        CHECK.same("rest p when " + test, x.count(12), holds ? 1 : 0);
        CHECK.same("quills of one who rests, or not, when " + test, x.peeler(0, 4), holds ? 0 : 4);
    }

    private static void reckoning() {
        due("1+2=3", true);
        due("2-5=-3", true);
        due("6*7=42", true);
        due("10-3-2=5", true);
        due("10-(3-2)=9", true);
        due("100/10/5=2", true);
        due("2+3*4=14", true);
        due("(2+3)*4=20", true);
        due("20-6/4*3=17", true);
        due("7/2=3", true);
        due("-7/2=-3", true);
        due("7/-2=-3", true);
        due("-7/-2=3", true);
        due("7/0=0", true);
        due("-7/(1-1)=0", true);
        due("0/0=0", true);
        due("65536*65536=0", true);
        due("46341*46341<0", true);
        due("32768*65536<0", true);
        due("32768*65536-1>0", true);
        due("32768*65535+32767>0", true);
        due("32768*65536/-1=32768*65536", true);
        due("-(32768*65536)=32768*65536", true);
        due("--5=5", true);
        due("-3*2=-6", true);
        due("-3+5=2", true);
        due("min(3,-4)=-4", true);
        due("max(3,-4)=3", true);
        due("min(2,2)=max(2,2)", true);
        due("max(min(9,5)+1,2*2)=6", true);
        due("000012=12", true);
    }

    private static void comparing() {
        due("1<2", true);
        due("2<2", false);
        due("3<2", false);
        due("1>2", false);
        due("2>2", false);
        due("3>2", true);
        due("1=2", false);
        due("2=2", true);
        due("1<=2", true);
        due("2<=2", true);
        due("3<=2", false);
        due("1>=2", false);
        due("2>=2", true);
        due("3>=2", true);
        due("-1<0", true);
    }

    private static void joining() {
        due("1=1 and 1=1", true);
        due("1=1 and 1=2", false);
        due("1=2 and 1=1", false);
        due("1=2 or 1=1", true);
        due("1=1 or 1=2", true);
        due("1=2 or 1=2", false);
        due("1=1 or 1=1 and 1=2", true);
        due("1=2 and 1=1 or 1=1", true);
        due("[1=1 or 1=1] and 1=2", false);
        due("not 1=2", true);
        due("not 1=1", false);
        due("not 1=2 and 1=2", false);
        due("not 1=1 or 1=1", true);
        due("not [1=2 and 1=2]", true);
        due("not not 1=1", true);
        due("not not not 1=1", false);
    }

    private static void words() {
        due("hour=0", true);
        due("coins=50", true);
        due("sticks g=30", true);
        due("sticks h=7", true);
        due("edge p=20", true);
        due("room r=20", true);
        due("room s=9", true);
        due("mile b=0", true);
        due("store first=0", true);
        due("price first=8", true);
        due("price second=17", true);
        due("price third=3", true);
        due("price fourth=1", true);
        due("afloat b", false);
        due("blunt p", false);
    }

    /** A second order tells by count(12) what the words are at its turn. */
    private static void wordsChangeInTheirTurn() {
        QuillBoats x = Check.told(PLACE + "shade 0 is 3;shade 1 is 3;shade 2 is 3;"
                + "rest q when hour=3 and sticks g=23 and edge p=17 and room r=12 and store first=7;"
                + "load c with 2 of first when hour=3;"
                + "rest q when hour=3 and store first=5 and afloat c and not afloat b and mile c=0;"
                + "rest q when hour=4 and mile c=1 and afloat c;rest q when hour=9 and mile c=6;"
                + "rest q when hour=9 and price first=8 and coins=66 and store first>2;"
                + "rest q when hour=11 and mile c=0 and not afloat c;");
        x.pass(3);
        CHECK.same("behind three hours: carried", x.count(12), 0);
        CHECK.same("behind three hours: the store of first", x.grade(0, 0), 3 + 4);
        CHECK.same("behind three hours: sticks", x.garden(0, 0), 23);
        CHECK.same("behind three hours: room", x.rack(0, 1), 12);
        x.pass(1);
        CHECK.same("a rest, a loading and a rest", x.count(12), 3);
        x.pass(1);
        CHECK.same("the hour behind it", x.count(12), 4);
        x.pass(4);
        CHECK.same("at the market", x.boat(1, 2), 6);
        CHECK.same("the boat has sold", x.boat(1, 6), 16);
        x.pass(1);
        CHECK.same("the hour behind the market", x.count(12), 6);
        x.pass(2);
        CHECK.same("it lies at the landing", x.count(12), 7);
    }

    private static void whetting() {
        QuillBoats x = Check.told(PLACE + "whet p when 1=1;whet q when edge p=20;");
        x.pass(1);
        CHECK.same("a keen knife is not whetted", x.count(12), 0);
        CHECK.same("coins are kept", x.count(1), 50);
        x.pass(1);
        CHECK.same("both are whetted, the second behind the first", x.count(12), 2);
        CHECK.same("coins are paid", x.count(1), 46);
        CHECK.same("the edge is 20, then 1 less", x.peeler(0, 3), 19);
        CHECK.same("how often", x.peeler(0, 5), 1);
        CHECK.same("how often the other", x.peeler(1, 5), 1);
        QuillBoats y = Check.told("garden g sticks 99 grows 20 thick 1;rack r holds 60;peeler p of g to r skill 1;"
                + "whet p when edge p<20;");
        y.pass(30);
        CHECK.same("25 times are all the coins", y.peeler(0, 5), 25);
        CHECK.same("no coins are left", y.count(1), 0);
        CHECK.same("25 are carried out", y.count(12), 25);
        CHECK.same("the knife gets blunt then", y.peeler(0, 3), 15);
        y.grant(1);
        y.pass(1);
        CHECK.same("one coin is too few", y.count(12), 25);
        CHECK.same("one coin is kept", y.count(1), 1);
        y.grant(1);
        y.pass(1);
        CHECK.same("two are enough", y.count(12), 26);
        CHECK.same("two are paid", y.count(1), 0);
    }

    private static void loading() {
        String dried = "garden g sticks 50 grows 0 thick 1;rack r holds 60;peeler p of g to r skill 9;"
                + "boat b holds 6 speed 1;boat c holds 40 speed 1;river 60 current 0;shade 0 is 3;";
        loaded(dried, "load b with 4 of first when hour=1;", 1, 4, 0);
        loaded(dried, "load b with 40 of first when hour=1;", 1, 6, 0);
        loaded(dried, "load b with 0 of first when hour=1;", 0, 0, 0);
        loaded(dried, "load b with -3 of first when hour=1;", 0, 0, 0);
        loaded(dried, "load b with 4 of second when hour=1;", 0, 0, 0);
        loaded(dried, "load b with 32768*65535+32767 of first when hour=1;", 1, 6, 0);
        loaded(dried, "load b with 32768*65536 of first when hour=1;", 0, 0, 0);
        loaded(dried, "load b with 5 of first;load b with 5 of first;", 1, 5, 0);
        loaded(dried, "load c with 40 of first;", 1, 0, 9);
        loaded(dried, "load b with 5 of first when hour=1;load c with 40 of first when hour=1;", 2, 5, 4);
        loaded(dried, "load c with store first-1 of first when hour=1;load b with 9 of first when afloat c;", 2, 1, 8);
        loaded(dried, "load b with 9 of first when afloat c;load c with store first-1 of first when hour=1;", 1, 0, 8);
    }

    /** Behind two hours: nine quills were in the store in the second. */
    private static void loaded(String told, String orders, int carried, int inFirst, int inSecond) {
        QuillBoats x = Check.told(told + orders);
        x.pass(2);
        CHECK.same("carried: " + orders, x.count(12), carried);
        CHECK.same("in the first boat: " + orders, x.boat(0, 4), inFirst);
        CHECK.same("in the second boat: " + orders, x.boat(1, 4), inSecond);
        CHECK.same("in the store: " + orders, x.count(7), 9 - inFirst - inSecond);
        CHECK.same("in boats: " + orders, x.count(9), inFirst + inSecond);
        CHECK.same("the first is afloat: " + orders, x.boat(0, 3), inFirst > 0 ? 1 : 0);
        CHECK.same("its mile: " + orders, x.boat(0, 2), inFirst > 0 ? 1 : 0);
        CHECK.same("its grade: " + orders, x.boat(0, 5), inFirst > 0 ? 0 : -1);
    }

    private static void resting() {
        QuillBoats x = Check.told(PLACE + "rest p when hour=1;rest p when hour=1;rest q when hour=2;");
        x.pass(1);
        CHECK.same("nobody rests", x.count(12), 0);
        CHECK.same("both peel", x.count(10), 5);
        x.pass(1);
        CHECK.same("a rest is carried out each time", x.count(12), 2);
        CHECK.same("one peels", x.count(10), 6);
        CHECK.same("the edge of one who rests", x.peeler(0, 3), 19);
        x.pass(1);
        CHECK.same("a rest of the other", x.count(12), 3);
        CHECK.same("the first does not rest on", x.count(10), 10);
        QuillBoats y = Check.told("garden g sticks 0 grows 0 thick 3;rack r holds 5;peeler p of g to r skill 4;"
                + "rest p when 1=1;");
        y.pass(3);
        CHECK.same("rests of one who could not peel", y.count(12), 3);
    }
}

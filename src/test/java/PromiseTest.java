/** The document's promises one by one, with answers worked out by hand from the document. */
public final class PromiseTest {
    private static int wrong = 0;
    private static int promise = 0;

    private static void due(String call, long got, long want) {
        if (got != want) {
            wrong++;
            System.out.println("promise " + promise + ": " + call + " answered " + got + ", due is " + want);
        }
    }

    private static void yes(String call, boolean got) { due(call, got ? 1 : 0, 1); }
    private static void no(String call, boolean got) { due(call, got ? 1 : 0, 0); }

    private static CoatHangers world(String text) {
        CoatHangers x = new CoatHangers();
        int fault = Texts.read(x, text);
        if (fault != 0) {
            wrong++;
            System.out.println("promise " + promise + ": fault " + fault + " at " + x.place() + " in " + text);
        }
        return x;
    }

    /** ann and bob share nail 0, cid lies on the floor; silk and iron are free. */
    private static final String HOUSE = "hanger wire 0 40; hanger oak 0 60; hanger silk 1 50; hanger iron 2 30;"
        + "person ann 42 3; person bob 57 5; person cid 30 1; hangs ann wire; hangs bob oak;";

    /** Two on nail 0, three on nail 1, all fit. */
    private static final String FIVE = "hanger a 0 9; hanger b 0 9; hanger c 1 9; hanger d 1 9; hanger e 1 9;"
        + "person p 9 0; person q 9 0; person r 9 0; person s 9 0; person t 9 0;"
        + "hangs p a; hangs q b; hangs r c; hangs s d; hangs t e;";

    public static void main(String[] args) {
        newObject();
        feedAndBack();
        syntax();
        room();
        sense();
        readReplaces();
        laws();
        hangerPersonTells();
        hands();
        nights();
        slipsAndMoths();
        undo();
        plans();
        ways();
        selves();
        fitAndMissed();
        crowdedStraightFree();
        billUprightSwap();
        thenYear();
        told();
        held();
        count();
        System.out.println(wrong == 0 ? "all promises hold" : wrong + " answers are not as due");
        if (wrong != 0) System.exit(1);
    }

    private static void newObject() {
        promise = 1;
        CoatHangers x = new CoatHangers();
        for (int what = 0; what <= 14; what++) due("count(" + what + ")", x.count(what), 0);
        due("place()", x.place(), -1);
        due("hanger(0, 0)", x.hanger(0, 0), -1);
        due("person(0, 0)", x.person(0, 0), -1);
        due("holder(0)", x.holder(0), -1);
    }

    private static void feedAndBack() {
        promise = 2;
        CoatHangers x = new CoatHangers();
        for (int i = 1; i <= 100; i++) due("feed " + i, x.feed(i, -1, 0, i, i), 20 * i);
        due("one more", x.feed(1, 2, 3, 4, 5), -1);
        due("count(8)", x.count(8), 2000);
        promise = 3;
        due("back(2001)", x.back(2001), -1);
        due("back(-1)", x.back(-1), -1);
        due("back(min)", x.back(Integer.MIN_VALUE), -1);
        due("back(max)", x.back(Integer.MAX_VALUE), -1);
        due("back(0)", x.back(0), 2000);
        due("back(19)", x.back(19), 1981);
        promise = 2;
        due("19 bytes of room", x.feed(1, 2, 3, 4, 5), -1);
        due("count(8)", x.count(8), 1981);
        promise = 3;
        due("back(1)", x.back(1), 1980);
        due("feed", x.feed(1, 2, 3, 4, 5), 2000);
        due("back(2000)", x.back(2000), 0);
        due("back(1)", x.back(1), -1);
        promise = 2;
        // 'seed 1234; moth 50; ', the highest byte first
        due("feed", x.feed(0x73656564, 0x20313233, 0x343b206d, 0x6f746820, 0x35303b20), 20);
        due("read()", x.read(), 0);
        due("count(8)", x.count(8), 0);
        // bytes above 127 come as they are
        due("feed", x.feed(0x20202020, 0xe9000000, 0, 0, 0), 20);
        due("read()", x.read(), 1);
        due("place()", x.place(), 4);
    }

    /** The place of the fault is where @ stands; the text has none there. */
    private static void fault(int number, String marked) {
        int at = marked.indexOf('@');
        String text = at < 0 ? marked : marked.substring(0, at) + marked.substring(at + 1);
        CoatHangers x = new CoatHangers();
        promise = 4;
        due("read() of " + marked, Texts.read(x, text), number);
        promise = 5;
        due("place() of " + marked, x.place(), at);
        promise = 4;
        due("bytes behind read() of " + marked, x.count(8), 0);
    }

    private static String times(int n, String part) {
        return part.repeat(n);
    }

    private static void syntax() {
        fault(0, "");
        fault(0, " \t\r\n");
        fault(0, "hanger a 0 1;");
        fault(0, "hanger a0 1;person b1 1;hangs b a;crooks=1;bends=2;slips=3;costs=4;moth 5;seed 6;");
        fault(1, "hanger@");
        fault(1, "hanger a 0 1  @");
        fault(1, "@hangera 0 1;");
        fault(1, "@Hanger a 0 1;");
        fault(1, "hanger @hanger 0 1;");
        fault(1, "hanger @nail 0 1;");
        fault(1, "hanger @1 0 1;");
        fault(0, "hanger abcdefgh 0 1;");
        fault(1, "hanger @abcdefghi 0 1;");
        fault(0, "hanger a 0001 0099;");
        fault(1, "hanger a @00001 1;");
        fault(1, "hanger a 0 1@.;");
        fault(1, "hanger a 0 1@\u000b;");
        fault(1, "hanger a 0 1@\u0000;");
        fault(1, "hanger a 0 @;");
        fault(1, "hanger a 0 1 @2;");
        fault(1, "hangs a @1;");
        fault(1, "hangs a b @c;");
        fault(1, "seed @10000;");
        fault(1, "moth @x;");
        fault(1, "@;");
        fault(1, "hanger a 0 1;@;");
        fault(1, "@a");
        fault(1, "@if");
        fault(1, "costs @1;");
        fault(1, "costs = @;");
        fault(1, "costs = @-1;");
        fault(1, "costs = @x;");
        fault(1, "costs = 1 +@;");
        fault(1, "costs = 1 @1;");
        fault(1, "costs = (1@;");
        fault(1, "costs = (@);");
        fault(1, "costs = 1@);");
        fault(1, "costs = (1)@);");
        fault(1, "costs = 1 @< 2;");
        fault(1, "costs = (1 @< 2);");
        fault(1, "costs = 1 @if;");
        fault(1, "costs = (@if 1 < 2 then 3 else 4);");
        fault(1, "costs = if 1 @then 2 else 3;");
        fault(1, "costs = if 1 < 2 @else 3;");
        fault(1, "costs = if 1 < 2 @< 3;");
        fault(1, "costs = if 1 < 2 then 3@;");
        fault(1, "costs = if 1 < 2 then 3 else@;");
        fault(1, "costs = if 1 < 2 then 3 else 4@");
        fault(1, "costs = if (1 @< 2) then 3 else 4;");
        fault(1, "costs = @= 1;");
        fault(0, "costs=if 1<2then 3else if(wide)<2then(3)else 4;");
    }

    private static void room() {
        String seven = "hanger a 0 1;hanger b 0 1;hanger c 0 1;hanger d 0 1;hanger e 0 1;hanger f 0 1;hanger g 0 1;";
        fault(0, seven);
        fault(2, seven + "@hanger h 0 1;");
        fault(2, seven + "@hanger ?");
        fault(2, seven + "@hanger");
        fault(1, seven + "@hangerh");
        String six = "person p 0 1;person q 0 1;person r 0 1;person s 0 1;person t 0 1;person u 0 1;";
        fault(0, six);
        fault(0, seven + six);
        fault(2, six + "@person v 0 1;");
        fault(2, times(6, "hangs p a;") + "@hangs p a;");
        fault(4, "hangs @p a;" + times(5, "hangs p a;"));
        String four = times(4, "if 1 < 2 then 3 else ");
        fault(0, "slips = " + four + "5;");
        fault(2, "slips = " + four + "@if 1 < 2 then 3 else 5;");
        fault(0, "slips = " + four + "5; slips = " + four + "5; costs = " + four + "5;");
        fault(1, "slips = " + four + "1 @if");
        fault(0, "bends = " + times(6, "(") + "1" + times(6, ")") + ";");
        fault(0, "bends = " + times(6, "(") + "1" + times(6, ")") + "+" + times(6, "(") + "1" + times(6, ")") + ";");
        fault(0, "bends = if ((((((1)))))) < ((((((1)))))) then ((((((1)))))) else ((((((1))))));");
        fault(2, "bends = " + times(6, "(") + "@(1" + times(7, ")") + ";");
        fault(2, "bends = 1 + (2 * (3 + (4 * (5 + (6 * (7 + @(8)))))));");
        fault(1, "bends = " + times(6, "(") + "1 @((");
        // costs = 1 and n more parts are 2 n + 4 tokens
        fault(0, "costs=1" + times(198, "+1") + ";");
        fault(2, "costs=1" + times(198, "+1") + "+@1;");
        fault(1, "costs=1" + times(198, "+1") + "+@x;");
        fault(1, "costs=1" + times(198, "+1") + "+@?");
        fault(1, "costs=1" + times(198, "+1") + "+@");
        fault(2, "costs=1" + times(198, "+1") + ";@moth 1;");
        fault(1, "costs=1" + times(198, "+1") + ";@1");
        fault(0, "costs=1" + times(198, "+1") + "; \n");
        fault(0, times(133, "seed 1;"));
        fault(2, times(133, "seed 1;") + "seed @1;");
        // the 401st token of every sort
        String full = "costs=1" + times(198, "+1") + ";";
        for (String word : new String[] {"hanger", "person", "hangs", "crooks", "slips", "moth", "seed"}) fault(2, full + "@" + word);
        String odd = times(133, "seed 1;");
        fault(2, odd + "hanger @a 0 1;");
        fault(2, odd + "person @p 0 1;");
        fault(2, odd + "hangs @p a;");
        fault(2, odd + "moth @101;");
        fault(2, odd + "costs @= 1;");
        fault(4, times(132, "seed 1;") + "hangs @p a;");
        fault(2, times(131, "seed 1;") + "costs=1;hangs p a@;");
        fault(2, times(132, "seed 1;") + "hanger a 0 1@;");
        fault(2, times(131, "seed 1;") + "costs=1;hanger a 0 @1;");
        fault(2, times(132, "seed 1;") + "costs=if 1 @<");
        fault(2, "seed 1;costs=1" + times(197, "+1") + "@+1;");
        fault(2, "seed 1;costs=1" + times(197, "+1") + "@;");
        fault(2, "costs=1" + times(198, "+1") + "+@(1);");
        fault(2, "costs=(1" + times(198, "+1") + "@);");
        fault(2, "seed 1;costs=if 1" + times(196, "+1") + "<@1;");
        fault(2, "costs=if 1" + times(198, "+1") + "@<1;");
        fault(2, "costs=if 1<1" + times(197, "+1") + "@then 1;");
        fault(2, "costs=if 1<1then 1" + times(196, "+1") + "@else 1;");
        // room and syntax by place, whichever comes first
        fault(1, "costs = @;" + seven + "hanger h 0 1;");
        fault(2, seven + "@hanger h 0 1; costs = ;");
    }

    private static void sense() {
        fault(3, "hanger a 0 1;hanger @a 0 1;");
        fault(3, "hanger a 0 1;person @a 0 1;");
        fault(3, "person a 0 1;hanger @a 0 1;");
        fault(3, "person a 0 1;person @a 0 1;");
        String two = "hanger a 0 1;hanger b 0 1;person p 0 1;person q 0 1;";
        fault(0, two + "hangs p a;hangs q b;");
        fault(3, two + "hangs p a;hangs @p b;");
        fault(3, two + "hangs p a;hangs q @a;");
        fault(3, two + "hangs p a;hangs @p a;");
        fault(4, two + "hangs @a p;");
        fault(4, two + "hangs p @q;");
        fault(4, two + "hangs @x y;");
        fault(4, two + "hangs p @y;");
        fault(4, "person p 0 1;hangs p @a;hanger a 0 1;");
        fault(4, "hanger a 0 1;hangs @p a;person p 0 1;");
        fault(0, "hanger a 4 99;");
        fault(5, "hanger a @5 99;");
        fault(5, "hanger a 4 @100;");
        fault(5, "hanger a @5 100;");
        fault(0, "person p 99 9;");
        fault(5, "person p @100 9;");
        fault(5, "person p 99 @10;");
        fault(0, "moth 100;");
        fault(5, "moth @101;");
        fault(0, "seed 9999;");
        fault(0, "costs = 9999;");
        // the first by its place
        fault(5, "moth @101;hangs p a;");
        fault(4, "hangs @p a;moth 101;");
        fault(3, "hanger a 0 1;hanger @a 7 1;");
        // syntax and room go before all these
        fault(1, "moth 101;@x");
        fault(1, "moth 101@");
        fault(2, "moth 101;costs=((((((@(1)))))));");
    }

    private static void readReplaces() {
        promise = 4;
        CoatHangers x = world(HOUSE + "bends = 1; seed 5;");
        x.nights(2);
        x.tell(0, 0, true);
        x.hold(1);
        due("read() with a fault", Texts.read(x, "moth 101;"), 5);
        due("place()", x.place(), 5);
        due("bytes", x.count(8), 0);
        due("night", x.count(2), 2);
        due("people", x.count(1), 3);
        due("undoable", x.count(9), 1);
        due("told", x.count(10), 1);
        due("slots", x.count(11), 1);
        due("crooked", x.person(0, 4), 2 + 3);
        due("tells bends still", x.tells(0, 1), 1);
        due("no moth", x.count(12), 0);
        due("read()", Texts.read(x, HOUSE), 0);
        promise = 5;
        due("place()", x.place(), -1);
        promise = 4;
        due("night", x.count(2), 0);
        due("undoable", x.count(9), 0);
        due("told", x.count(10), 0);
        due("slots", x.count(11), 0);
        due("crooked", x.count(6), 0);
        due("bent", x.count(7), 0);
        due("selves", x.count(5), 7);
        due("bends are not told any more", x.tells(0, 1), 0);
        no("undo()", x.undo());
        no("restore(1)", x.restore(1));
        due("an empty text", x.read(), 0);
        due("hangers", x.count(0), 0);
        due("people", x.count(1), 0);
    }

    /** The law's value of p, the second one: wide 40, rank 7, on a hanger 50 wide of nail 3, another one beside. */
    private static void law(String law, int value) {
        CoatHangers x = world("hanger g 3 1; hanger h 3 50; person o 1 1; person p 40 7; hangs p h; hangs o g; costs = " + law + ";");
        due("costs = " + law, x.tells(1, 3), value);
    }

    private static void laws() {
        promise = 8;
        law("apart", 10);
        law("bent", 0);
        law("wide", 40);
        law("rank", 7);
        law("night", 0);
        law("crooked", 0);
        law("beside", 1);
        law("which", 1);
        law("nail", 3);
        law("7 - 2 - 1", 4);
        law("7 - (2 - 1)", 6);
        law("16 / 4 / 2", 2);
        law("16 / (4 / 2)", 8);
        law("2 + 3 * 4", 14);
        law("2 * 3 + 4", 10);
        law("(2 + 3) * 4", 20);
        law("2 * (3 + 4) * 5 - 6 / (1 + 1)", 67);
        law("1 + 2 * 3 - 8 / 4 + 5", 10);
        law("7 / 2", 3);
        law("(0 - 7) / 2 + 10", 7);
        law("7 / (0 - 2) + 10", 7);
        law("99", 99);
        law("100", 99);
        law("0 - 1", 0);
        law("if 3 < 3 then 1 else 2", 2);
        law("if 2 < 3 then 1 else 2", 1);
        law("if 3 < 2 then 1 else if 2 < 3 then 5 else 6", 5);
        law("if 2 < 3 then 4 else if 2 < 3 then 5 else 6", 4);
        law("if 3 < 2 then 1 else if 3 < 2 then 2 else if 3 < 2 then 3 else if 3 < 2 then 4 else 5", 5);
        law("1 / 0", 0);
        law("5 + 1 / 0", 0);
        law("5 + 0 * (1 / 0)", 0);
        law("5 / (wide - 40)", 0);
        law("if 1 / 0 < 1 then 5 else 6", 0);
        law("if 1 < 1 / 0 then 5 else 6", 0);
        law("if 1 < 2 then 5 else 1 / 0", 5);
        law("if 2 < 1 then 1 / 0 else 5", 5);
        law("if 1 < 2 then 5 else if 1 / 0 < 1 then 6 else 7", 5);
        law("if 1 < 2 then 1 / 0 else 5", 0);
        String most = "(2147 * 1000 * 1000 + 483 * 1000 + 647)";
        law("if 0 < " + most + " then 5 else 6", 5);
        law("if " + most + " + 1 < 0 then 5 else 6", 5);
        law("if (" + most + " + 1) / (0 - 1) < 0 then 5 else 6", 5);
        law("9999 * 9999 * 9999 * 9999 / 9999 / 1200", 90);
        law("256 * 256 * 256 * 256 + 8", 8);
        law("1; costs = 2", 2);
        CoatHangers x = world("hanger h 0 50; person p 40 7; hangs p h; slips = 101; bends = 200; crooks = 0 - 3;");
        due("slips at most", x.tells(0, 2), 100);
        due("bends at most", x.tells(0, 1), 99);
        due("crooks at least", x.tells(0, 0), 0);
        due("costs, if not told", x.tells(0, 3), 10);
        x = world("hanger h 0 50; person p 40 7; hangs p h;");
        due("crooks, if not told", x.tells(0, 0), 10);
        due("bends, if not told", x.tells(0, 1), 0);
        due("slips, if not told", x.tells(0, 2), 0);
    }

    private static void hangerPersonTells() {
        promise = 6;
        CoatHangers x = world(HOUSE + "bends = rank;");
        due("hanger(1, 0)", x.hanger(1, 0), 0);
        due("hanger(3, 0)", x.hanger(3, 0), 2);
        due("hanger(1, 1)", x.hanger(1, 1), 60);
        due("hanger(1, 2)", x.hanger(1, 2), 0);
        due("hanger(1, 3)", x.hanger(1, 3), 1);
        due("hanger(2, 3)", x.hanger(2, 3), -2);
        due("hanger(1, 4)", x.hanger(1, 4), -1);
        due("hanger(1, -1)", x.hanger(1, -1), -1);
        due("hanger(4, 0)", x.hanger(4, 0), -1);
        due("hanger(-1, 0)", x.hanger(-1, 0), -1);
        promise = 7;
        due("person(1, 0)", x.person(1, 0), 57);
        due("person(1, 1)", x.person(1, 1), 5);
        due("person(1, 2)", x.person(1, 2), 1);
        due("person(2, 2)", x.person(2, 2), -2);
        due("person(1, 3)", x.person(1, 3), 1);
        due("person(1, 4)", x.person(1, 4), 0);
        due("person(1, 5)", x.person(1, 5), 1);
        due("person(2, 5)", x.person(2, 5), 0);
        due("person(1, 6)", x.person(1, 6), -1);
        due("person(1, -1)", x.person(1, -1), -1);
        due("person(3, 0)", x.person(3, 0), -1);
        due("person(-1, 0)", x.person(-1, 0), -1);
        promise = 8;
        due("tells(1, 0)", x.tells(1, 0), 3);
        due("tells(1, 1)", x.tells(1, 1), 5);
        due("tells(2, 0)", x.tells(2, 0), -2);
        due("tells(2, 4)", x.tells(2, 4), -1);
        due("tells(1, 4)", x.tells(1, 4), -1);
        due("tells(1, -1)", x.tells(1, -1), -1);
        due("tells(3, 0)", x.tells(3, 0), -1);
        due("tells(-1, 0)", x.tells(-1, 0), -1);
        x.nights(1);
        promise = 6;
        due("hanger(1, 2)", x.hanger(1, 2), 5);
        promise = 7;
        due("person(1, 3)", x.person(1, 3), 0);
        due("person(1, 4)", x.person(1, 4), 3);
        promise = 8;
        due("tells(1, 0), bent by 5", x.tells(1, 0), 8);
    }

    private static void hands() {
        CoatHangers x = world(HOUSE + "bends = 1;");
        promise = 9;
        no("hang one who hangs", x.hang(0, 2));
        no("hang on a taken one", x.hang(2, 1));
        no("hang(2, 4)", x.hang(2, 4));
        no("hang(2, -1)", x.hang(2, -1));
        no("hang(3, 2)", x.hang(3, 2));
        no("hang(-1, 2)", x.hang(-1, 2));
        due("nothing done", x.count(9), 0);
        yes("hang(2, 3)", x.hang(2, 3));
        due("on", x.person(2, 2), 3);
        due("done", x.count(9), 1);
        promise = 10;
        no("take(3)", x.take(3));
        no("take(-1)", x.take(-1));
        yes("take(2)", x.take(2));
        due("on", x.person(2, 2), -2);
        no("take(2)", x.take(2));
        due("done", x.count(9), 2);
        promise = 11;
        no("change(0, 0)", x.change(0, 0));
        no("change(0, 2)", x.change(0, 2));
        no("change(2, 0)", x.change(2, 0));
        no("change(0, 3)", x.change(0, 3));
        no("change(-1, 0)", x.change(-1, 0));
        yes("change(1, 0)", x.change(1, 0));
        due("on", x.person(0, 2), 1);
        due("on", x.person(1, 2), 0);
        due("done", x.count(9), 3);
        promise = 12;
        no("not bent", x.straighten(2));
        x.nights(1);
        no("somebody is on it", x.straighten(0));
        x.take(0);
        no("straighten(4)", x.straighten(4));
        no("straighten(-1)", x.straighten(-1));
        due("bent", x.hanger(1, 2), 1);
        yes("straighten(1)", x.straighten(1));
        due("bent", x.hanger(1, 2), 0);
        no("not bent any more", x.straighten(1));
        due("done", x.count(9), 6);
        due("taken down, but still crooked", x.person(0, 4), 18);
        x.nights(1);
        due("a night on the floor", x.person(0, 4), 0);
    }

    private static void nights() {
        promise = 13;
        CoatHangers x = world(FIVE + "crooks = bent + 99; bends = 40;");
        due("nights(0)", x.nights(0), 0);
        due("no thing done", x.count(9), 0);
        due("nights(61)", x.nights(61), -1);
        due("nights(-1)", x.nights(-1), -1);
        due("nights(1)", x.nights(1), 1);
        int[] first = {1, 0, 3, 4, 2};
        for (int p = 0; p < 5; p++) due("self of " + p, x.person(p, 3), first[p]);
        due("nights(1)", x.nights(1), 2);
        int[] second = {0, 1, 4, 2, 3};
        for (int p = 0; p < 5; p++) due("self of " + p, x.person(p, 3), second[p]);
        due("bent", x.hanger(0, 2), 80);
        due("nights(1)", x.nights(1), 3);
        due("bent at most", x.hanger(0, 2), 99);
        due("crooked", x.person(0, 4), 297);
        due("nights(60)", x.nights(60), 63);
        due("crooked at most", x.person(0, 4), 999);
        due("things done", x.count(9), 4);
        // by how it was as it began: crooks don't see the bend of this night
        x = world("hanger a 0 9; person p 9 0; hangs p a; crooks = bent; bends = crooked + 10;");
        x.nights(1);
        due("crooked", x.person(0, 4), 0);
        due("bent", x.hanger(0, 2), 10);
        x.nights(1);
        due("crooked", x.person(0, 4), 10);
        due("bent", x.hanger(0, 2), 20);
        // the next one by number, not by hanger
        x = world("hanger a 2 9; hanger b 2 9; hanger c 2 9; person p 9 0; person q 9 0; person r 9 0; hangs p c; hangs q a; hangs r b;");
        x.nights(1);
        due("self of 0", x.person(0, 3), 1);
        due("self of 1", x.person(1, 3), 2);
        due("self of 2", x.person(2, 3), 0);
        // who lies on the floor keeps their self
        x.take(1);
        x.nights(1);
        due("self of 0", x.person(0, 3), 0);
        due("self of 1", x.person(1, 3), 2);
        due("self of 2", x.person(2, 3), 1);
        // night is a var
        x = world("hanger a 0 9; person p 9 0; hangs p a; crooks = night;");
        x.nights(4);
        due("crooked", x.person(0, 4), 0 + 1 + 2 + 3);
    }

    /** LOTS of seed 7: who 0 has 54, 35, 20 in nights 0, 1, 2; the moth 7, 4, 89; of two it eats 1, then 0. */
    private static void slipsAndMoths() {
        promise = 13;
        String one = "hanger a 0 9; person p 5 0; hangs p a; seed 7;";
        CoatHangers x = world(one + "slips = 35;");
        x.nights(2);
        due("still hung", x.person(0, 2), 0);
        x.nights(1);
        due("slipped", x.person(0, 2), -2);
        due("still crooked", x.person(0, 4), 12);
        x = world(one + "slips = 36;");
        x.nights(1);
        due("still hung", x.person(0, 2), 0);
        x.nights(1);
        due("slipped", x.person(0, 2), -2);
        // as it began: nobody is crooked in the first night, and beside counts those who slip too
        x = world(one + "slips = if 0 < crooked then 100 else 0;");
        x.nights(1);
        due("still hung", x.person(0, 2), 0);
        x.nights(1);
        due("slipped", x.person(0, 2), -2);
        x = world("hanger a 0 9; hanger b 0 9; person p 9 0; person q 9 0; hangs p a; hangs q b; slips = beside * 100;");
        x.nights(1);
        due("both slipped", x.count(3), 0);
        due("but woke as another one", x.person(0, 3), 1);
        String two = "hanger a 0 9; person p 5 0; person q 1 0; hangs p a; seed 7;";
        x = world(two + "moth 8;");
        promise = 42;
        due("a moth", x.count(12), 1);
        promise = 13;
        x.nights(1);
        due("wide", x.person(0, 0), 5);
        due("wide", x.person(1, 0), 0);
        due("crooked by how it was", x.person(0, 4), 4);
        x.nights(1);
        due("wide", x.person(0, 0), 4);
        promise = 42;
        due("no moth", x.count(12), 0);
        promise = 13;
        x.nights(1);
        due("wide", x.person(0, 0), 4);
        due("crooked, apart 4, 4, 5", x.person(0, 4), 13);
        x = world(two + "moth 7;");
        promise = 42;
        due("no moth", x.count(12), 0);
        x.nights(1);
        due("a moth", x.count(12), 1);
        promise = 13;
        due("wide", x.person(1, 0), 1);
        x = world("person q 0 0; moth 100;");
        x.nights(3);
        due("wide, 0 at least", x.person(0, 0), 0);
        x = world("hanger a 0 9; moth 100;");
        promise = 42;
        due("a moth, nobody to eat of", x.count(12), 1);
        promise = 13;
        due("nights(2)", x.nights(2), 2);
    }

    private static void undo() {
        promise = 14;
        CoatHangers x = world(HOUSE + "bends = 2; slips = 50; moth 50; seed 3;");
        no("undo()", x.undo());
        x.nights(45);
        int wide = x.person(0, 0) + x.person(1, 0) + x.person(2, 0);
        due("eaten", wide < 129 ? 1 : 0, 1);
        yes("undo()", x.undo());
        due("night", x.count(2), 0);
        due("hung", x.count(3), 3);
        due("wide", x.person(0, 0) + x.person(1, 0) + x.person(2, 0), 129);
        due("crooked", x.count(6), 0);
        due("bent", x.count(7), 0);
        due("selves", x.count(5), 7);
        no("undo()", x.undo());
        x = world(HOUSE + "bends = 2;");
        x.nights(1);
        x.take(0);
        x.straighten(0);
        x.hang(2, 0);
        x.change(1, 2);
        yes("undo change", x.undo());
        due("on", x.person(1, 2), 1);
        yes("undo hang", x.undo());
        due("on", x.person(2, 2), -2);
        yes("undo straighten", x.undo());
        due("bent", x.hanger(0, 2), 2);
        yes("undo take", x.undo());
        due("on", x.person(0, 2), 0);
        yes("undo nights", x.undo());
        due("night", x.count(2), 0);
        no("undo()", x.undo());
        for (int i = 1; i <= 45; i++) x.nights(1);
        due("the last 40", x.count(9), 40);
        for (int i = 1; i <= 40; i++) yes("undo " + i, x.undo());
        no("a 41st", x.undo());
        due("night", x.count(2), 5);
        // what does nothing can't be undone; what is told stays
        x.tell(0, 1, true);
        x.take(2);
        x.nights(0);
        x.nights(1);
        x.hold(0);
        yes("undo()", x.undo());
        due("told", x.count(10), 1);
        due("held", x.count(11), 1);
        no("undo()", x.undo());
    }

    private static void plans() {
        promise = 15;
        CoatHangers x = world("hanger a 0 10; hanger b 0 10; person p 10 0; person q 10 0; person r 10 0;");
        due("hanging(-1)", x.hanging(-1), 0);
        due("hanging(0)", x.hanging(0), 0);
        due("hanging(1)", x.hanging(1), 1);
        due("hanging(2)", x.hanging(2), -2);
        due("hanging(3)", x.hanging(3), -1);
        due("hanging(-2)", x.hanging(-2), -1);
        promise = 16;
        due("apart(-1)", x.apart(-1), 0);
        due("apart(0)", x.apart(0), 0);
        due("apart(1)", x.apart(1), -2);
        due("apart(2)", x.apart(2), -2);
        due("apart(3)", x.apart(3), -1);
        due("apart(-2)", x.apart(-2), -1);
        promise = 15;
        // as many as can be, even if it costs; the first one is left out as that costs least
        x = world("hanger a 0 10; hanger b 1 12; person p 50 0; person q 10 0; person r 10 0;");
        due("hanging(-1)", x.hanging(-1), 2);
        due("hanging(0)", x.hanging(0), -2);
        due("hanging(1)", x.hanging(1), 0);
        due("hanging(2)", x.hanging(2), 1);
        // alike ones: the lowest for the first one, then for the next
        x = world("hanger a 0 10; hanger b 1 20; hanger c 2 30; person p 20 0; person q 20 0; person r 20 0; costs = if nail < 1 then 1 else if nail < 2 then 1 else 1;");
        for (int p = 0; p < 3; p++) due("hanging(" + p + ")", x.hanging(p), p);
        x = world("hanger a 0 10; hanger b 0 20; hanger c 0 10; person p 10 0; person q 10 0; person r 20 0;");
        due("hanging(-1)", x.hanging(-1), 0);
        due("hanging(0)", x.hanging(0), 0);
        due("hanging(1)", x.hanging(1), 2);
        due("hanging(2)", x.hanging(2), 1);
        // beside is 0, all else as now: bent, crooked, night; who is where doesn't matter
        x = world("hanger a 0 10; hanger b 0 10; person p 10 0; person q 10 0; hangs p a; hangs q b; bends = 3; crooks = 4; costs = apart + crooked * 2 + beside * 50 + night;");
        x.nights(2);
        due("hanging(-1)", x.hanging(-1), 2 * (6 + 16 + 2));
        promise = 16;
        due("apart(-1)", x.apart(-1), 6 + 16 + 2);
        due("apart(0)", x.apart(0), 0);
        due("apart(1)", x.apart(1), -2);
        // two of one nail would cost least, but may not
        x = world("hanger a 0 10; hanger b 0 20; hanger c 1 90; person p 10 0; person q 20 0;");
        due("apart(-1)", x.apart(-1), 70);
        due("apart(0)", x.apart(0), 0);
        due("apart(1)", x.apart(1), 2);
        promise = 15;
        due("hanging(-1)", x.hanging(-1), 0);
        due("hanging(1)", x.hanging(1), 1);
        // all cost most
        x = world(FIVE + "person u 9 0; hanger f 2 9; hanger g 3 9; costs = 99;");
        due("hanging(-1)", x.hanging(-1), 594);
        for (int p = 0; p < 6; p++) due("hanging(" + p + ")", x.hanging(p), p);
        promise = 16;
        due("apart(-1)", x.apart(-1), 396);
        due("apart(0)", x.apart(0), 0);
        due("apart(1)", x.apart(1), 2);
        due("apart(2)", x.apart(2), 5);
        due("apart(3)", x.apart(3), 6);
        due("apart(4)", x.apart(4), -2);
        promise = 15;
        x = world("person p 10 0;");
        due("no hangers", x.hanging(0), -2);
        due("no hangers", x.hanging(-1), 0);
    }

    private static void ways() {
        promise = 17;
        CoatHangers x = world("hanger a 0 10; hanger b 0 12; hanger c 1 20; person p 10 0; person q 20 0; costs = apart + beside * 90;");
        due("ways(99)", x.ways(99), 4);
        due("ways(10)", x.ways(10), 4);
        due("ways(9)", x.ways(9), 2);
        due("ways(2)", x.ways(2), 2);
        due("ways(1)", x.ways(1), 1);
        due("ways(0)", x.ways(0), 1);
        due("ways(-1)", x.ways(-1), -1);
        due("ways(100)", x.ways(100), -1);
        due("nobody", new CoatHangers().ways(0), 1);
        due("more people than nails", world(FIVE).ways(99), 0);
        due("no hangers", world("person p 1 1;").ways(99), 0);
        due("no people", world("hanger h 1 1;").ways(0), 1);
        x = world("hanger a 0 1; hanger b 1 1; hanger c 2 1; hanger d 3 1; hanger e 4 1; hanger f 4 1; hanger g 4 1;"
            + "person p 1 0; person q 1 0; person r 1 0; person s 1 0; person t 1 0;");
        due("five on five nails", x.ways(0), 120 * 3);
    }

    private static void selves() {
        CoatHangers x = world(FIVE + "slips = 100; moth 100;");
        promise = 18;
        due("sets()", x.sets(), 5);
        promise = 19;
        due("changes()", x.changes(), 0);
        promise = 20;
        due("themselves()", x.themselves(), 0);
        promise = 28;
        due("round()", x.round(), 6);
        x = world(FIVE);
        x.nights(1);
        promise = 18;
        due("sets()", x.sets(), 2);
        promise = 19;
        due("changes()", x.changes(), 3);
        promise = 20;
        due("themselves()", x.themselves(), 5);
        promise = 21;
        due("crossed(0)", x.crossed(0), 1);
        due("crossed(1)", x.crossed(1), 1);
        due("crossed(2)", x.crossed(2), -1);
        due("crossed(-1)", x.crossed(-1), -1);
        promise = 28;
        due("round()", x.round(), 6);
        promise = 30;
        int[] holders = {1, 0, 4, 2, 3};
        for (int s = 0; s < 5; s++) due("holder(" + s + ")", x.holder(s), holders[s]);
        due("holder(5)", x.holder(5), -1);
        due("holder(-1)", x.holder(-1), -1);
        due("holder(-2)", x.holder(-2), -1);
        promise = 32;
        due("day(0)", x.day(0), 1);
        due("day(2)", x.day(2), 2);
        due("day(5)", x.day(5), -1);
        due("day(-1)", x.day(-1), -1);
        x.nights(1);
        promise = 32;
        due("day(0), now", x.day(0), 0);
        due("day(3)", x.day(3), 1);
        promise = 21;
        due("crossed(0)", x.crossed(0), 0);
        due("crossed(1)", x.crossed(1), -2);
        x.nights(1);
        x.take(0);
        promise = 20;
        due("themselves()", x.themselves(), -2);
        promise = 32;
        due("day(0)", x.day(0), -2);
        due("day(2)", x.day(2), 0);
        promise = 28;
        due("round()", x.round(), 3);
        x.take(2);
        x.take(3);
        due("round(), nobody shares a nail", x.round(), 1);
        // selves that don't come round any more: r, s, t were turned once, then r and s alone turn
        x = world(FIVE);
        x.nights(1);
        x.take(4);
        promise = 20;
        due("themselves()", x.themselves(), -2);
        promise = 28;
        due("round()", x.round(), 2);
        promise = 32;
        due("day(2)", x.day(2), -2);
        due("day(4)", x.day(4), -2);
        due("day(3)", x.day(3), 1);
        promise = 21;
        x = world("hanger a 1 9; hanger b 1 9; hanger c 0 9; hanger d 0 9; person p 9 0; person q 9 0; person r 9 0; person s 9 0; hangs p a; hangs s b; hangs q c; hangs r d;");
        x.nights(1);
        due("crossed(0)", x.crossed(0), 2);
        due("crossed(1)", x.crossed(1), 3);
        promise = 19;
        due("changes()", x.changes(), 2);
    }

    private static void fitAndMissed() {
        promise = 22;
        CoatHangers x = world("hanger a 0 10; hanger b 0 30; hanger c 1 30; person p 28 0; person q 20 0; hangs p b; hangs q a; costs = apart + beside * 50;");
        due("fit(0, 0), taken or not, the first", x.fit(0, 0), 1);
        due("fit(0, 1), nobody beside", x.fit(0, 1), 2);
        due("fit(1, 0)", x.fit(1, 0), 0);
        due("fit(1, 1)", x.fit(1, 1), 10);
        due("fit(0, 2)", x.fit(0, 2), -1);
        due("fit(0, -1)", x.fit(0, -1), -1);
        due("fit(2, 0)", x.fit(2, 0), -1);
        due("fit(-1, 0)", x.fit(-1, 0), -1);
        x = world("person p 28 0;");
        due("no hangers", x.fit(0, 0), -2);
        due("no hangers", x.fit(0, 1), -2);
        due("no such what", x.fit(0, 2), -1);
        promise = 23;
        due("no hangers", x.missed(0), -2);
        due("no hangers", x.missed(1), -2);
        due("no such what", x.missed(2), -1);
        due("no such what", x.missed(-1), -1);
        x = world("hanger a 0 10; hanger b 1 50; person p 50 0; person q 50 0; person r 49 0;");
        due("missed(0)", x.missed(0), 1);
        due("missed(1)", x.missed(1), 39);
        x = world("hanger a 0 10; hanger b 1 50; hanger c 1 50; person p 50 0; person q 12 0; costs = apart + beside * 9;");
        due("missed(0)", x.missed(0), 0);
        due("missed(1)", x.missed(1), 38);
        due("missed(2)", x.missed(2), -1);
        x = world("hanger a 0 10; hanger b 1 50; hanger c 1 50; person p 50 0;");
        due("of alike ones the first", x.missed(0), 0);
        due("missed(1)", x.missed(1), 0);
        x = world("hanger a 0 10; hanger b 1 50;");
        due("nobody to hang", x.missed(0), 0);
        due("nobody to hang", x.missed(1), 0);
    }

    private static void crowdedStraightFree() {
        CoatHangers x = world(FIVE + "hanger f 4 20; hanger g 2 20; crooks = which - 2 + (2 - which) * (2 - which);");
        promise = 24;
        due("crowded(0)", x.crowded(0), 1);
        due("crowded(1)", x.crowded(1), 3);
        due("crowded(2)", x.crowded(2), -1);
        due("crowded(-1)", x.crowded(-1), -1);
        x.take(4);
        due("crowded(0), of alike ones the first", x.crowded(0), 0);
        due("crowded(1)", x.crowded(1), 2);
        x.hang(4, 4);
        promise = 25;
        due("straight()", x.straight(), 0);
        x.nights(1);
        // crooks are 2, 0, 0, 2, 6
        due("straight()", x.straight(), 1);
        x.take(1);
        due("straight()", x.straight(), 2);
        x.take(2);
        due("straight(), of alike ones the first", x.straight(), 0);
        promise = 31;
        due("free(0)", x.free(0), 5);
        due("free(1)", x.free(1), 20);
        due("free(2)", x.free(2), -1);
        due("free(-1)", x.free(-1), -1);
        x.hang(1, 5);
        due("free(0)", x.free(0), 6);
        x.hang(2, 6);
        due("free(0)", x.free(0), 1);
        due("free(1)", x.free(1), 9);
        for (int p = 0; p < 5; p++) x.take(p);
        promise = 24;
        due("crowded(0), all on the floor", x.crowded(0), 0);
        due("crowded(1), all on the floor", x.crowded(1), 0);
        promise = 25;
        due("straight()", x.straight(), -2);
        promise = 31;
        x = world("hanger a 0 0; person p 1 1; hangs p a;");
        due("free(0)", x.free(0), -2);
        due("free(1)", x.free(1), -2);
        x.take(0);
        due("free(0)", x.free(0), 0);
        due("free(1)", x.free(1), 0);
    }

    private static void billUprightSwap() {
        promise = 26;
        CoatHangers x = world("hanger a 0 10; hanger b 0 20; person p 10 0; person q 20 0; person r 5 5; hangs p a; hangs q b;"
            + "bends = 1; slips = 100; moth 100; costs = apart + beside * 10 + night;");
        due("bill(0)", x.bill(0), 0);
        due("bill(1)", x.bill(1), 20);
        due("bill(2)", x.bill(2), 20 + 24);
        due("bill(3)", x.bill(3), 20 + 24 + 28);
        due("bill(61)", x.bill(61), -1);
        due("bill(-1)", x.bill(-1), -1);
        due("nothing happens", x.count(2), 0);
        due("bill(60), 99 each at most", world("hanger a 0 10; person p 10 0; hangs p a; costs = 200;").bill(60), 5940);
        promise = 29;
        // crooks are apart: 0, 1, 2 ...
        due("upright(0, 1)", x.upright(0, 1), 7);
        due("upright(1, 1)", x.upright(1, 1), 7);
        due("upright(2, 1)", x.upright(2, 1), 4);
        due("upright(2, 2)", x.upright(2, 2), 7);
        due("upright(60, 999)", x.upright(60, 999), 4);
        due("upright(0, 0)", x.upright(0, 0), -1);
        due("upright(0, 1000)", x.upright(0, 1000), -1);
        due("upright(-1, 1)", x.upright(-1, 1), -1);
        due("upright(61, 1)", x.upright(61, 1), -1);
        promise = 27;
        due("swap(0), none", x.swap(0), -2);
        due("swap(1), none", x.swap(1), -2);
        due("swap(2)", x.swap(2), -1);
        due("swap(-1)", x.swap(-1), -1);
        x.change(0, 1);
        due("swap(0)", x.swap(0), 1);
        due("swap(1)", x.swap(1), 20);
        x = world("hanger a 0 10; hanger b 1 20; hanger c 2 10; hanger d 3 20; person p 20 0; person q 10 0; person r 20 0; person s 10 0; hangs p a; hangs q b; hangs r c; hangs s d;");
        due("swap(0), of alike ones the first", x.swap(0), 1);
        due("swap(1)", x.swap(1), 20);
        x.take(0);
        due("swap(0)", x.swap(0), 12);
        x.take(1);
        due("swap(0)", x.swap(0), 23);
        x.take(2);
        due("swap(0)", x.swap(0), -2);
        // beside counts: the ranked one is better off alone
        x = world("hanger a 0 10; hanger b 0 10; hanger c 1 10; person p 10 5; person q 10 0; person r 10 0; hangs p a; hangs q b; hangs r c; costs = beside * rank;");
        due("swap(0)", x.swap(0), 2);
        due("swap(1)", x.swap(1), 5);
    }

    private static void thenYear() {
        promise = 33;
        // LOTS of seed 7 for 0: 54, 35, 20; the moth's 7, 4, 89 eats of one
        CoatHangers x = world("hanger a 0 9; person p 5 0; hangs p a; seed 7; slips = 36; moth 8; bends = 2;");
        due("then(0, 0, 2)", x.then(0, 0, 2), 0);
        due("then(0, 1, 2)", x.then(0, 1, 2), 0);
        due("then(0, 2, 2)", x.then(0, 2, 2), -2);
        due("then(0, 1, 1)", x.then(0, 1, 1), 4);
        due("then(0, 2, 1), one less wide, bent by 2", x.then(0, 2, 1), 11);
        due("then(0, 3, 1), a night on the floor", x.then(0, 3, 1), 0);
        due("then(0, 60, 0)", x.then(0, 60, 0), 0);
        due("then(0, 61, 0)", x.then(0, 61, 0), -1);
        due("then(0, -1, 0)", x.then(0, -1, 0), -1);
        due("then(0, 1, 3)", x.then(0, 1, 3), -1);
        due("then(0, 1, -1)", x.then(0, 1, -1), -1);
        due("then(1, 1, 0)", x.then(1, 1, 0), -1);
        due("then(-1, 1, 0)", x.then(-1, 1, 0), -1);
        promise = 34;
        due("bentIn(0, 0)", x.bentIn(0, 0), 0);
        due("bentIn(0, 1)", x.bentIn(0, 1), 2);
        due("bentIn(0, 60), as nobody is on it", x.bentIn(0, 60), 4);
        due("bentIn(0, 61)", x.bentIn(0, 61), -1);
        due("bentIn(0, -1)", x.bentIn(0, -1), -1);
        due("bentIn(1, 1)", x.bentIn(1, 1), -1);
        due("bentIn(-1, 1)", x.bentIn(-1, 1), -1);
        due("nothing happens", x.count(2), 0);
        x = world(FIVE);
        promise = 33;
        due("then(4, 1, 0)", x.then(4, 1, 0), 2);
        due("then(4, 2, 0)", x.then(4, 2, 0), 3);
        promise = 35;
        // LOTS of night 0 for 0 by seeds 9995 .. : 83 13 46 73 15 | 70 61 64 74 22 14 29 54 90 13 60 26 57 31 65
        x = world("hanger a 0 9; person p 5 0; person q 5 0; hangs p a; seed 9995; slips = 50;");
        due("year(0, 1, 1)", x.year(0, 1, 1), 1);
        due("year(0, 1, 5)", x.year(0, 1, 5), 2);
        due("year(0, 1, 20), seeds above 9999 too", x.year(0, 1, 20), 11);
        due("year(0, 0, 20)", x.year(0, 0, 20), 20);
        // of night 1: 42 . . 88 . 17 90 44 3 . . . 86 13 . 51 . 74 . 8
        due("year(0, 2, 20)", x.year(0, 2, 20), 5);
        due("year(1, 0, 20), on the floor", x.year(1, 0, 20), 0);
        due("year(2, 1, 1)", x.year(2, 1, 1), -1);
        due("year(-1, 1, 1)", x.year(-1, 1, 1), -1);
        due("year(0, 61, 1)", x.year(0, 61, 1), -1);
        due("year(0, -1, 1)", x.year(0, -1, 1), -1);
        due("year(0, 1, 0)", x.year(0, 1, 0), -1);
        due("year(0, 1, 21)", x.year(0, 1, 21), -1);
        due("nothing happens", x.count(2), 0);
    }

    private static void told() {
        promise = 36;
        CoatHangers x = world(FIVE + "person u 9 0;");
        due("tell(6, 0)", x.tell(6, 0, true), -1);
        due("tell(0, 6)", x.tell(0, 6, true), -1);
        due("tell(-1, 0)", x.tell(-1, 0, true), -1);
        due("tell(0, -1)", x.tell(0, -1, true), -1);
        for (int i = 0; i < 20; i++) due("tell " + i, x.tell(5, 5, true), i);
        due("a 21st", x.tell(5, 5, true), -1);
        due("told", x.count(10), 20);
        promise = 38;
        due("two(20, -1)", x.two(20, -1), 10);
        due("two(21, -1)", x.two(21, -1), -1);
        due("two(-1, -1)", x.two(-1, -1), -1);
        promise = 37;
        due("forget()", x.forget(), 20);
        due("forget()", x.forget(), 0);
        promise = 38;
        due("two(1, -1)", x.two(1, -1), -1);
        due("two(0, -1)", x.two(0, -1), 10);
        due("two(0, 0)", x.two(0, 0), 1);
        due("two(0, 3)", x.two(0, 3), 4);
        due("two(0, 4)", x.two(0, 4), 12);
        due("two(0, 9)", x.two(0, 9), 34);
        due("two(0, 10)", x.two(0, 10), -1);
        due("two(0, -2)", x.two(0, -2), -1);
        // changed within a nail, the others' turn stays; 0 wakes as 1 if none of them left for the other nail
        x.tell(0, 1, true);
        due("two(1, -1)", x.two(1, -1), 4);
        int[] within = {1, 23, 24, 34};
        for (int i = 0; i < 4; i++) due("two(1, " + i + ")", x.two(1, i), within[i]);
        x.tell(2, 3, false);
        due("two(2, -1)", x.two(2, -1), 0);
        promise = 39;
        due("ask(2)", x.ask(2), -2);
        due("ask(1), all alike", x.ask(1), 0);
        due("ask(3)", x.ask(3), -1);
        due("ask(-1)", x.ask(-1), -1);
        promise = 38;
        due("two(0, -1), known by less", x.two(0, -1), 10);
        x.forget();
        x.tell(0, 1, false);
        // one of 0, 1 with one of 2, 3, 4
        due("two(1, -1)", x.two(1, -1), 6);
        int[] across = {2, 3, 4, 12, 13, 14};
        for (int i = 0; i < 6; i++) due("two(1, " + i + ")", x.two(1, i), across[i]);
        promise = 39;
        // with 02: nails {1 2} {0 3 4}: 0 as 3, 1 as 2, 2 as 1, 3 as 4, 4 as 0
        // with 03: {1 3} {0 2 4}: 0 as 2, 1 as 3, 2 as 4, 3 as 1, 4 as 0
        // with 04: {1 4} {0 2 3}: 0 as 2, 1 as 4, 2 as 3, 3 as 0, 4 as 1
        // with 12: {0 2} {1 3 4}: 0 as 2, 1 as 3, 2 as 0, 3 as 4, 4 as 1
        // with 13: {0 3} {1 2 4}: 0 as 3, 1 as 2, 2 as 4, 3 as 0, 4 as 1
        // with 14: {0 4} {1 2 3}: 0 as 4, 1 as 2, 2 as 3, 3 as 1, 4 as 0
        // left at worst: of 0 three, of 1 three, of 2 two
        due("ask(1)", x.ask(1), 2);
        x.tell(2, 4, true);
        promise = 38;
        due("two(2, -1)", x.two(2, -1), 2);
        due("two(2, 0)", x.two(2, 0), 3);
        due("two(2, 1)", x.two(2, 1), 13);
        promise = 39;
        due("ask(2)", x.ask(2), 0);
        promise = 38;
        // by what is now: the told ones stay, those on the floor can't have changed
        x.take(3);
        due("two(0, -1)", x.two(0, -1), 6);
        due("two(0, 5)", x.two(0, 5), 24);
        x = world("hanger a 0 1; person p 1 1; person q 1 1; hangs p a;");
        due("two(0, -1), one alone", x.two(0, -1), 0);
        promise = 39;
        due("ask(0)", x.ask(0), -2);
    }

    private static void held() {
        promise = 40;
        CoatHangers x = world(HOUSE + "bends = 1; moth 100;");
        no("hold(3)", x.hold(3));
        no("hold(-1)", x.hold(-1));
        promise = 41;
        no("restore(3)", x.restore(3));
        no("restore(-1)", x.restore(-1));
        no("restore(0)", x.restore(0));
        promise = 40;
        x.nights(2);
        x.tell(0, 0, true);
        Texts.put(x, "moth");
        yes("hold(2)", x.hold(2));
        due("held", x.count(11), 1);
        due("no thing done", x.count(9), 1);
        int wide = x.person(0, 0) + x.person(1, 0) + x.person(2, 0);
        due("eaten", wide, 127);
        int crooked = x.count(6);
        x.nights(3);
        x.take(0);
        x.tell(0, 1, true);
        promise = 41;
        no("restore(1)", x.restore(1));
        due("nothing happens", x.count(9), 3);
        yes("restore(2)", x.restore(2));
        due("night", x.count(2), 2);
        due("on", x.person(0, 2), 0);
        due("wide", x.person(0, 0) + x.person(1, 0) + x.person(2, 0), wide);
        due("crooked", x.count(6), crooked);
        due("bent", x.count(7), 4);
        due("told stays", x.count(10), 2);
        due("tape stays", x.count(8), 4);
        due("nothing can be undone", x.count(9), 0);
        no("undo()", x.undo());
        x.nights(1);
        x.hold(0);
        yes("it stays there", x.restore(2));
        due("night", x.count(2), 2);
        yes("restore(0)", x.restore(0));
        due("night", x.count(2), 3);
        promise = 40;
        yes("in place of what it held", x.hold(2));
        x.nights(5);
        x.restore(2);
        due("night", x.count(2), 3);
        due("held", x.count(11), 2);
        CoatHangers y = new CoatHangers();
        yes("hold(0) of a new one", y.hold(0));
        y.nights(4);
        yes("restore(0)", y.restore(0));
        due("night", y.count(2), 0);
    }

    private static void count() {
        promise = 42;
        CoatHangers x = world(FIVE + "hanger f 3 9; bends = 2; crooks = 3; costs = beside + 1;");
        due("count(0)", x.count(0), 6);
        due("count(1)", x.count(1), 5);
        due("count(2)", x.count(2), 0);
        due("count(3)", x.count(3), 31);
        due("count(4)", x.count(4), 31);
        due("count(5)", x.count(5), 31);
        due("count(13)", x.count(13), 2 + 2 + 3 + 3 + 3);
        due("count(14)", x.count(14), 3);
        x.nights(1);
        x.take(1);
        x.take(4);
        x.hang(4, 5);
        due("count(2)", x.count(2), 1);
        due("count(3)", x.count(3), 29);
        due("count(4)", x.count(4), 1 + 4 + 8 + 32);
        due("count(5)", x.count(5), 0);
        due("count(6)", x.count(6), 15);
        due("count(7)", x.count(7), 10);
        due("count(9)", x.count(9), 4);
        due("count(13)", x.count(13), 1 + 2 + 2 + 1);
        due("count(14)", x.count(14), 2);
        Texts.put(x, "abc");
        due("count(8)", x.count(8), 3);
        x.tell(0, 0, false);
        due("count(10)", x.count(10), 1);
        x.hold(0);
        x.hold(2);
        due("count(11)", x.count(11), 2);
        due("count(12)", x.count(12), 0);
        due("count(15)", x.count(15), -1);
        due("count(-1)", x.count(-1), -1);
        due("count(min)", x.count(Integer.MIN_VALUE), -1);
    }
}

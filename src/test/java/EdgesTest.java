/**
 * The sentences of parts II to IV of the document and of the promises that name a bound: the last that is still
 * taken, the first that is not, and that behind a refused call the object answers as one that was not asked.
 */
public final class EdgesTest {
    private static final int LEAST = Integer.MIN_VALUE;
    private static final int MOST = Integer.MAX_VALUE;

    /** 7 hangers on all nails, 6 people, all hung: p q on nail 0, r s on nail 1, t on 2, u on 3; g is free on 4. */
    private static final String FULL = "hanger a 0 10;hanger b 0 20;hanger c 1 30;hanger d 1 40;hanger e 2 50;hanger f 3 60;hanger g 4 70;"
        + "person p 10 0;person q 20 1;person r 30 2;person s 40 3;person t 50 4;person u 60 5;"
        + "hangs p a;hangs q b;hangs r c;hangs s d;hangs t e;hangs u f;";

    /** Six on one nail, all as wide as their hangers. */
    private static final String ONE_NAIL = FULL.replaceAll("(hanger \\w) \\d", "$1 2");

    private static final String ONE = "hanger a 0 9;person p 9 0;hangs p a;";

    public static void main(String[] args) {
        calls512();
        lawBounds();
        lawVars();
        crookedBound();
        bentBound();
        waking();
        slipBounds();
        mothBounds();
        tape();
        readAndPlace();
        looks();
        hands();
        nights();
        undo();
        plans();
        selves();
        fitMissed();
        crowdedStraightFree();
        billUprightSwap();
        ahead();
        years();
        told();
        held();
        counts();
        askingChangesNothing();
        Checks.end("edges");
    }

    /** An object in the middle of things: undoable, held, told, something on the tape. r lies on the floor, c is bent. */
    private static CoatHangers busy() {
        CoatHangers x = Checks.world("hanger a 0 10;hanger b 0 20;hanger c 1 30;hanger d 1 35;person p 12 1;person q 25 2;person r 30 3;"
            + "hangs p a;hangs q b;hangs r c;bends=2;costs=apart+beside;moth 40;seed 77;");
        x.nights(3);
        x.hold(1);
        x.take(2);
        x.nights(2);
        x.tell(0, 1, true);
        x.tell(2, 2, false);
        Texts.put(x, "hanger z 0 5;moth");
        return x;
    }

    private static int as(boolean b) { return b ? 1 : 0; }

    private static void refused(String call, int answer, Checks.Call what) { Checks.refused(EdgesTest::busy, call, answer, what); }

    private static void refusedByNew(String call, int answer, Checks.Call what) { Checks.refused(CoatHangers::new, call, answer, what); }

    private static void calls512() {
        Checks.says("An object is used for at most 512 calls after it has been made");
        CoatHangers x = new CoatHangers();
        for (int i = 1; i <= 511; i++) Checks.due("nights(60), call " + i, x.nights(60), 60 * i);
        Checks.due("the 512th", x.count(2), 30660);
        x = Checks.world(FULL + "moth 50;");
        for (int i = 0; i < 400; i++) x.nights(60);
        Checks.due("wide, all eaten up", x.person(0, 0) + x.person(5, 0), 0);
    }

    // ---- II

    /** The value of a law of one who is 40 wide on a hanger 50 wide. */
    private static int value(String law, int what) {
        String name = new String[] {"crooks", "bends", "slips", "costs"}[what];
        return Checks.world("hanger h 3 50;person p 40 7;hangs p h;" + name + "=" + law + ";").tells(0, what);
    }

    private static void lawIs(String law, int due) { Checks.due(law, value(law, 3), due); }

    private static void lawBounds() {
        String most = "(2147*1000*1000+483*1000+647)";
        String least = "(0-" + most + "-1)";
        Checks.says("CROOKS, BENDS, COSTS, held to 0 .. 99; SLIPS, held to 0 .. 100");
        for (int what = 0; what < 4; what++) {
            int top = what == 2 ? 100 : 99;
            for (int v : new int[] {0, 1, 98, 99, 100, 101, 9999}) Checks.due("law " + what + " of " + v, value("" + v, what), Math.min(top, v));
            for (String law : new String[] {"0-1", "0-9999", least}) Checks.due("law " + what + " of " + law, value(law, what), 0);
            Checks.due("law " + what + " of the most", value(most, what), top);
        }
        Checks.says("the E of the first if that holds (one less than the other), else the last one");
        lawIs("if 3<3 then 1 else 2", 2);
        lawIs("if 2<3 then 1 else 2", 1);
        lawIs("if 4<3 then 1 else 2", 2);
        lawIs("if " + least + "<" + most + " then 1 else 2", 1);
        lawIs("if " + most + "<" + least + " then 1 else 2", 2);
        lawIs("if 0-1<0 then 1 else 2", 1);
        lawIs("if 1<1 then 1 else if 1<1 then 2 else if 1<1 then 3 else if 1<2 then 4 else 5", 4);
        lawIs("if 1<1 then 1 else if 1<1 then 2 else if 1<1 then 3 else if 1<1 then 4 else 5", 5);
        lawIs("if 1<2 then 1 else if 1<2 then 2 else if 1<2 then 3 else if 1<2 then 4 else 5", 1);
        Checks.says("ints of 32 bits that wrap");
        lawIs("if " + most + "+1<0 then 1 else 2", 1);
        lawIs("if 0<" + least + "-1 then 1 else 2", 1);
        lawIs(most + "+" + most + "+3", 1);
        lawIs(most + "*" + most, 1);
        lawIs("256*256*256*256+8", 8);
        lawIs("256*256*256*128/256/256/256+200", 72);
        lawIs("if 256*256*256*127<0 then 1 else 2", 2);
        lawIs("if 256*256*256*128<0 then 1 else 2", 1);
        lawIs("if " + least + "/(0-1)<0 then 1 else 2", 1);
        lawIs("if " + least + "*(0-1)<0 then 1 else 2", 1);
        Checks.says("/ rounded towards 0");
        lawIs("7/2", 3);
        lawIs("(0-7)/2+9", 6);
        lawIs("7/(0-2)+9", 6);
        lawIs("(0-7)/(0-2)", 3);
        lawIs("1/2+9", 9);
        lawIs("(0-1)/2+9", 9);
        lawIs("0/5", 0);
        Checks.says("a LAW in which something that is looked at is divided by 0 is 0");
        lawIs("0/0", 0);
        lawIs("1/0+5", 0);
        lawIs("5+1/(wide-40)", 0);
        lawIs("5+1/(wide-39)", 6);
        lawIs("7-0*(1/0)", 0);
        lawIs("if 1/0<1 then 5 else 6", 0);
        lawIs("if 0-1<1/0 then 5 else 6", 0);
        lawIs("if 1<2 then 1/0 else 6", 0);
        lawIs("if 2<1 then 1/0 else 6", 6);
        lawIs("if 1<2 then 6 else 1/0", 6);
        lawIs("if 1<2 then 6 else if 1/0<1 then 5 else 7", 6);
        lawIs("if 2<1 then 6 else if 1/0<1 then 5 else 7", 0);
        lawIs("if 2<1 then 6 else 1/0", 0);
        for (int what = 0; what < 4; what++) Checks.due("law " + what, value("9/0", what), 0);
        Checks.says("six ( within one another, as much waiting as can be");
        lawIs("1+2*(3+2*(1+2*(1-1*(2-3*(1+1*(2-1*1))))))", 51);
        lawIs("if 50<1+2*(3+2*(1+2*(1-1*(2-3*(1+1*(2-1*1)))))) then 1+2*(3+2*(1+2*(1-1*(2-3*(1+1*(2-1*1)))))) else 7", 51);
        lawIs("if 1+2*(3+2*(1+2*(1-1*(2-3*(1+1*(2-1*1))))))<1+2*(3+2*(1+2*(1-1*(2-3*(1+1*(2-1*1)))))) then 8 else 7", 7);
    }

    private static void lawVars() {
        Checks.says("apart: how much both are WIDE unlike, and how much the HANGER is bent, added");
        Checks.due("alike", Checks.world(ONE).tells(0, 3), 0);
        Checks.due("one more", Checks.world("hanger a 0 10;person p 9 0;hangs p a;").tells(0, 3), 1);
        Checks.due("one less", Checks.world("hanger a 0 9;person p 10 0;hangs p a;").tells(0, 3), 1);
        CoatHangers x = Checks.world("hanger a 0 99;person p 0 0;hangs p a;bends=99;costs=apart-100;");
        Checks.due("99 - 100", x.tells(0, 3), 0);
        x.nights(1);
        Checks.due("99 + 99 - 100", x.tells(0, 3), 98);
        Checks.says("beside: how many others are on HANGERS of that NAIL");
        x = Checks.world(ONE_NAIL + "costs=beside;");
        for (int p = 0; p < 6; p++) Checks.due("beside " + p, x.tells(p, 3), 5);
        Checks.due("all of them", x.count(13), 30);
        x.take(5);
        Checks.due("one less", x.tells(0, 3), 4);
        Checks.due("alone", Checks.world(ONE + "costs=beside+7;").tells(0, 3), 7);
        Checks.says("which: the PERSON's number; nail: its number; rank; wide; night");
        x = Checks.world("hanger a 0 0;hanger b 4 99;person p 0 0;person q 1 1;person r 2 2;person s 3 3;person t 4 4;person u 99 9;"
            + "hangs p a;hangs u b;crooks=which+nail*10;bends=rank;slips=wide;costs=night/10;");
        Checks.due("which 0 nail 0", x.tells(0, 0), 0);
        Checks.due("which 5 nail 4", x.tells(5, 0), 45);
        Checks.due("rank 0", x.tells(0, 1), 0);
        Checks.due("rank 9", x.tells(5, 1), 9);
        Checks.due("wide 0", x.tells(0, 2), 0);
        Checks.due("wide 99", x.tells(5, 2), 99);
        x = Checks.world(ONE + "costs=night/10;");
        Checks.due("night 0", x.tells(0, 3), 0);
        for (int i = 0; i < 16; i++) x.nights(60);
        Checks.due("night 960", x.tells(0, 3), 96);
        x.nights(60);
        Checks.due("night 1020", x.tells(0, 3), 99);
    }

    private static void crookedBound() {
        Checks.says("who is on a HANGER is more CROOKED by CROOKS (999 at most)");
        CoatHangers x = Checks.world(ONE + "crooks=if crooked<990 then 99 else if crooked<998 then 8 else if crooked<999 then 1 else 5;costs=crooked-900;");
        x.nights(10);
        Checks.due("crooked", x.person(0, 4), 990);
        x.nights(1);
        Checks.due("one less than most", x.person(0, 4), 998);
        Checks.due("the laws see it", x.tells(0, 3), 98);
        x.nights(1);
        Checks.due("the most", x.person(0, 4), 999);
        Checks.due("the laws see it", x.tells(0, 3), 99);
        x.nights(1);
        Checks.due("not more", x.person(0, 4), 999);
        x = Checks.world(ONE + "crooks=99;");
        x.nights(11);
        Checks.due("1089 is too much", x.person(0, 4), 999);
        Checks.due("behind one NIGHT more", x.then(0, 1, 1), 999);
        Checks.says("who lies on the FLOOR is not CROOKED any more");
        x.take(0);
        Checks.due("taken down", x.person(0, 4), 999);
        x.nights(1);
        Checks.due("a night on the floor", x.person(0, 4), 0);
        x.undo();
        x.hang(0, 0);
        x.nights(1);
        Checks.due("hung again", x.person(0, 4), 999);
        Checks.due("nothing told of hangers", Checks.world("person p 5 5;").then(0, 60, 1), 0);
    }

    private static void bentBound() {
        Checks.says("each HANGER with a PERSON is bent more by BENDS (99 at most)");
        CoatHangers x = Checks.world("hanger a 0 9;hanger b 0 9;person p 9 0;hangs p a;bends=if bent<98 then 49 else if bent<99 then 1 else 5;");
        x.nights(2);
        Checks.due("one less than most", x.hanger(0, 2), 98);
        x.nights(1);
        Checks.due("the most", x.hanger(0, 2), 99);
        x.nights(1);
        Checks.due("not more", x.hanger(0, 2), 99);
        Checks.due("nobody on it", x.hanger(1, 2), 0);
        x = Checks.world(ONE + "bends=50;");
        x.nights(2);
        Checks.due("100 is too much", x.hanger(0, 2), 99);
        x.take(0);
        x.nights(1);
        Checks.due("stays bent", x.hanger(0, 2), 99);
    }

    private static void selvesAre(CoatHangers x, int... selves) {
        for (int p = 0; p < selves.length; p++) Checks.due("self of " + p, x.person(p, 3), selves[p]);
    }

    private static void waking() {
        Checks.says("each wakes as the SELF of the next one of these by number, the last one as that of the first");
        CoatHangers x = Checks.world(ONE);
        x.nights(1);
        selvesAre(x, 0);
        x = Checks.world(ONE_NAIL);
        x.nights(1);
        selvesAre(x, 1, 2, 3, 4, 5, 0);
        x.nights(4);
        selvesAre(x, 5, 0, 1, 2, 3, 4);
        x.nights(1);
        selvesAre(x, 0, 1, 2, 3, 4, 5);
        x.take(0);
        x.take(5);
        x.nights(1);
        selvesAre(x, 0, 2, 3, 4, 1, 5);
        x = Checks.world(FULL);
        x.nights(1);
        selvesAre(x, 1, 0, 3, 2, 4, 5);
        x = Checks.world("person p 1 1;person q 1 1;");
        x.nights(60);
        selvesAre(x, 0, 1);
    }

    private static void slipBounds() {
        Checks.says("who SLIPS (LOT 100 .. is less than that, as it began) lies on the FLOOR");
        for (int seed = 0; seed <= 9999; seed += 1111) {
            for (int p = 0; p < 6; p += 5) {
                int lot = Model.lot(100, seed, p);
                CoatHangers x = Checks.world(FULL + "seed " + seed + ";slips=if which<" + p + " then 0 else if " + p + "<which then 0 else " + lot + ";");
                Checks.due("as much as the LOT", x.then(p, 1, 2), p);
                x = Checks.world(FULL + "seed " + seed + ";slips=if which<" + p + " then 0 else if " + p + "<which then 0 else " + (lot + 1) + ";");
                Checks.due("one more", x.then(p, 1, 2), -2);
                Checks.due("the others stay", x.then(5 - p, 1, 2), 5 - p);
            }
        }
        CoatHangers x = Checks.world(FULL + "slips=0-1;");
        x.nights(60);
        Checks.due("nobody slips by 0", x.count(3), 63);
        x = Checks.world(FULL + "slips=100;");
        x.nights(1);
        Checks.due("all slip by 100", x.count(3), 0);
        Checks.says("16 * the night and the PERSON, of nights far on");
        for (int nights = 60; nights <= 240; nights += 60) {
            int lot = Model.lot(100, 42, 16 * nights + 3);
            x = Checks.world(FULL + "seed 42;slips=if night<" + nights + " then 0 else if which<3 then 0 else if 3<which then 0 else " + lot + ";");
            for (int i = 0; i < nights; i += 60) x.nights(60);
            Checks.due("as much as the LOT", x.then(3, 1, 2), 3);
            x = Checks.world(FULL + "seed 42;slips=if night<" + nights + " then 0 else if which<3 then 0 else if 3<which then 0 else " + (lot + 1) + ";");
            for (int i = 0; i < nights; i += 60) x.nights(60);
            Checks.due("one more", x.then(3, 1, 2), -2);
        }
    }

    private static int wideOfAll(CoatHangers x) {
        int sum = 0;
        for (int p = 0; p < x.count(1); p++) sum += x.person(p, 0);
        return sum;
    }

    private static void mothBounds() {
        Checks.says("if there is a MOTH (LOT 100 .. is less than that) and there are PEOPLE");
        for (int seed = 0; seed <= 9999; seed += 1111) {
            int lot = Model.lot(100, seed, 8);
            CoatHangers x = Checks.world(FULL + "seed " + seed + ";moth " + lot + ";");
            Checks.due("as much as the LOT", x.count(12), 0);
            x.nights(1);
            Checks.due("nobody is eaten of", wideOfAll(x), 210);
            x = Checks.world(FULL + "seed " + seed + ";moth " + (lot + 1) + ";");
            Checks.due("one more", x.count(12), 1);
            int eaten = Model.lot(6, seed, 9);
            x.nights(1);
            Checks.due("one is eaten of", wideOfAll(x), 209);
            Checks.due("that one", x.person(eaten, 0), 10 * eaten + 9);
        }
        CoatHangers x = Checks.world(FULL + "moth 0;");
        x.nights(60);
        Checks.due("never", wideOfAll(x), 210);
        x = Checks.world(FULL + "moth 100;");
        x.nights(4);
        Checks.due("each night", wideOfAll(x), 206);
        x = Checks.world("hanger a 0 1;moth 100;");
        Checks.due("nobody there", x.nights(60), 60);
        Checks.due("a moth nevertheless", x.count(12), 1);
        Checks.says("is 1 less WIDE (0 at least)");
        x = Checks.world("person p 2 0;moth 100;");
        for (int wide : new int[] {1, 0, 0, 0}) {
            x.nights(1);
            Checks.due("wide", x.person(0, 0), wide);
        }
    }

    // ---- promises 2 to 8

    private static CoatHangers fed(int bytes) {
        CoatHangers x = new CoatHangers();
        for (int i = 0; i < 100; i++) x.feed(0x20202020, 0x20202020, 0x20202020, 0x20202020, 0x20202020);
        x.back(2000 - bytes);
        return x;
    }

    private static void tape() {
        Checks.says("NONE, and nothing comes, if it would have more than 2,000");
        Checks.due("the last that comes", fed(1980).feed(1, 2, 3, 4, 5), 2000);
        for (int bytes : new int[] {1981, 1990, 1999, 2000}) {
            Checks.refused(() -> fed(bytes), "feed behind " + bytes, -1, x -> x.feed(1, 2, 3, 4, 5));
        }
        Checks.due("feed to nothing", new CoatHangers().feed(0, 0, 0, 0, 0), 20);
        CoatHangers x = fed(1981);
        x.feed(0x3f3f3f3f, 0, 0, 0, 0);
        Checks.due("nothing of it is read", x.read(), 0);
        x = fed(1980);
        x.feed(0x20202020, 0x20202020, 0x20202020, 0x20202020, 0x2020203f);
        Checks.due("the 2,000th byte is read", x.read(), 1);
        Checks.due("its place", x.place(), 1999);
        Checks.due("room again", x.feed(0, 0, 0, 0, 0), 20);
        Checks.says("Twenty bytes, the highest of a first");
        String twenty = "moth 7 ;seed 8 ;   ?";
        for (int at = 0; at < 20; at++) {
            String s = Checks.times(at, " ") + "?" + Checks.times(19 - at, " ");
            int[] f = Texts.twenty(s, 0);
            x = new CoatHangers();
            x.feed(f[0], f[1], f[2], f[3], f[4]);
            x.read();
            Checks.due("byte " + at, x.place(), at);
        }
        Checks.fault(1, twenty.replace("?", "@?"));
        Checks.says("NONE, and nothing goes, if it has not so many, or n is below 0");
        Checks.due("all", fed(2000).back(2000), 0);
        Checks.due("none", fed(2000).back(0), 2000);
        Checks.due("none of none", new CoatHangers().back(0), 0);
        Checks.due("one of 17", busy().back(1), 16);
        Checks.due("all of 17", busy().back(17), 0);
        refused("back(18)", -1, y -> y.back(18));
        refused("back(-1)", -1, y -> y.back(-1));
        refused("back(least)", -1, y -> y.back(LEAST));
        refused("back(most)", -1, y -> y.back(MOST));
        refusedByNew("back(1)", -1, y -> y.back(1));
        Checks.says("The last n bytes of the tape go");
        x = new CoatHangers();
        Texts.put(x, "moth 1;seed ?");
        x.back(6);
        Checks.due("the first ones stay", x.read(), 0);
    }

    private static void readAndPlace() {
        Checks.says("The tape, which is empty then, is read");
        CoatHangers x = new CoatHangers();
        Checks.due("an empty tape", x.read(), 0);
        Checks.due("fault", Texts.read(x, "hanger"), 1);
        Checks.due("empty then", x.count(8), 0);
        Checks.due("back(1)", x.back(1), -1);
        Checks.due("an empty tape", x.read(), 0);
        Checks.says("The byte of the latest read()'s FAULT; NONE without");
        Checks.due("of a new object", new CoatHangers().place(), -1);
        x = new CoatHangers();
        Texts.read(x, "?");
        Checks.due("at 0", x.place(), 0);
        Texts.read(x, "seed 1;?");
        Checks.due("the latest one", x.place(), 7);
        Texts.put(x, "seed");
        Checks.due("not read yet", x.place(), 7);
        x.nights(1);
        x.undo();
        Checks.due("by other calls it stays", x.place(), 7);
        x.read();
        Checks.due("the latest one", x.place(), 4);
        x.read();
        Checks.due("without", x.place(), -1);
    }

    private static final int[] NEVER = {LEAST, -3, -2, -1, 7, 8, 31, 32, 1000, MOST};

    private static void looks() {
        CoatHangers x = Checks.world(FULL + "bends=1;");
        Checks.says("hanger: NONE for others");
        for (int what = 0; what <= 3; what++) {
            Checks.due("the last hanger", x.hanger(6, what), new int[] {4, 70, 0, -2}[what]);
            Checks.due("the first hanger", x.hanger(0, what), new int[] {0, 10, 0, 0}[what]);
            for (int h : NEVER) Checks.due("hanger(" + h + ", " + what + ")", x.hanger(h, what), -1);
        }
        for (int what : new int[] {LEAST, -2, -1, 4, 5, MOST}) Checks.due("hanger(6, " + what + ")", x.hanger(6, what), -1);
        Checks.due("none at all", new CoatHangers().hanger(0, 0), -1);
        Checks.due("four of them", busy().hanger(3, 1), 35);
        Checks.due("four of them", busy().hanger(4, 1), -1);
        Checks.says("who is on it (-2: nobody)");
        Checks.due("the last person", x.hanger(5, 3), 5);
        Checks.due("nobody", x.hanger(6, 3), -2);
        Checks.says("person: NONE for others");
        for (int what = 0; what <= 5; what++) {
            Checks.due("the last person", x.person(5, what), new int[] {60, 5, 5, 5, 0, 0}[what]);
            Checks.due("the first person", x.person(0, what), new int[] {10, 0, 0, 0, 0, 1}[what]);
            for (int p : NEVER) Checks.due("person(" + p + ", " + what + ")", x.person(p, what), -1);
            Checks.due("person(6, " + what + ")", x.person(6, what), -1);
        }
        for (int what : new int[] {LEAST, -2, -1, 6, 7, MOST}) Checks.due("person(5, " + what + ")", x.person(5, what), -1);
        Checks.due("none at all", new CoatHangers().person(0, 0), -1);
        Checks.due("three of them", busy().person(2, 1), 3);
        Checks.due("three of them", busy().person(3, 1), -1);
        Checks.says("on which HANGER (-2: the FLOOR); how many are beside");
        Checks.due("on the floor", busy().person(2, 2), -2);
        Checks.due("nobody beside the floor", busy().person(2, 5), 0);
        Checks.due("five beside", Checks.world(ONE_NAIL).person(5, 5), 5);
        Checks.says("-2: on the FLOOR; NONE: no such ones");
        for (int what = 0; what <= 3; what++) {
            Checks.due("on a hanger", x.tells(5, what), new int[] {0, 1, 0, 0}[what]);
            Checks.due("on the floor", busy().tells(2, what), -2);
            for (int p : NEVER) Checks.due("tells(" + p + ", " + what + ")", x.tells(p, what), -1);
            Checks.due("tells(6, " + what + ")", x.tells(6, what), -1);
        }
        for (int what : new int[] {LEAST, -2, -1, 4, 5, MOST}) {
            Checks.due("tells(5, " + what + ")", x.tells(5, what), -1);
            Checks.due("on the floor, tells(2, " + what + ")", busy().tells(2, what), -1);
        }
        Checks.due("none at all", new CoatHangers().tells(0, 0), -1);
    }

    // ---- promises 9 to 14

    private static void hands() {
        Checks.says("hang: false, and nothing happens: not on the FLOOR, somebody is on it, no such ones");
        Checks.yes("hang(2, 3)", busy().hang(2, 3));
        refused("not on the floor", 0, x -> as(x.hang(0, 3)));
        refused("not on the floor, its own", 0, x -> as(x.hang(0, 0)));
        refused("somebody is on it", 0, x -> as(x.hang(2, 0)));
        for (int n : new int[] {LEAST, -2, -1, 4, MOST}) refused("hang(2, " + n + ")", 0, x -> as(x.hang(2, n)));
        for (int n : new int[] {LEAST, -2, -1, 3, MOST}) refused("hang(" + n + ", 2)", 0, x -> as(x.hang(n, 2)));
        refusedByNew("hang(0, 0)", 0, x -> as(x.hang(0, 0)));
        Checks.refused(() -> Checks.world("person p 1 1;"), "no hangers", 0, x -> as(x.hang(0, 0)));
        Checks.refused(() -> Checks.world("hanger p 1 1;"), "no people", 0, x -> as(x.hang(0, 0)));
        CoatHangers full = Checks.world(FULL);
        full.take(5);
        Checks.yes("the last ones", full.hang(5, 6));
        Checks.due("there", full.hanger(6, 3), 5);
        Checks.says("take: false, and nothing happens: on the FLOOR, no such PERSON");
        Checks.yes("take(1)", busy().take(1));
        Checks.yes("the last one", Checks.world(FULL).take(5));
        refused("on the floor", 0, x -> as(x.take(2)));
        for (int n : new int[] {LEAST, -2, -1, 3, MOST}) refused("take(" + n + ")", 0, x -> as(x.take(n)));
        refusedByNew("take(0)", 0, x -> as(x.take(0)));
        Checks.says("change: false, and nothing happens: not both on HANGERS, no such ones, one and the same");
        Checks.yes("change(0, 1)", busy().change(0, 1));
        Checks.yes("change(5, 0)", Checks.world(FULL).change(5, 0));
        refused("one and the same", 0, x -> as(x.change(1, 1)));
        refused("one and the same on the floor", 0, x -> as(x.change(2, 2)));
        refused("the other on the floor", 0, x -> as(x.change(0, 2)));
        refused("the one on the floor", 0, x -> as(x.change(2, 0)));
        for (int n : new int[] {LEAST, -2, -1, 3, MOST}) {
            refused("change(0, " + n + ")", 0, x -> as(x.change(0, n)));
            refused("change(" + n + ", 0)", 0, x -> as(x.change(n, 0)));
            refused("change(" + n + ", " + n + ")", 0, x -> as(x.change(n, n)));
        }
        refusedByNew("change(0, 1)", 0, x -> as(x.change(0, 1)));
        Checks.says("straighten: false, and nothing happens: somebody is on it, not bent, no such HANGER");
        Checks.yes("straighten(2)", busy().straighten(2));
        refused("somebody is on it", 0, x -> as(x.straighten(0)));
        refused("not bent", 0, x -> as(x.straighten(3)));
        for (int n : new int[] {LEAST, -2, -1, 4, MOST}) refused("straighten(" + n + ")", 0, x -> as(x.straighten(n)));
        refusedByNew("straighten(0)", 0, x -> as(x.straighten(0)));
        CoatHangers x = Checks.world(FULL + "bends=1;");
        x.change(5, 0);
        x.take(5);
        x.hang(5, 6);
        x.nights(1);
        Checks.no("somebody on the last one", x.straighten(6));
        x.take(5);
        Checks.yes("the last one, bent by 1", x.straighten(6));
        Checks.due("not bent", x.hanger(6, 2), 0);
        Checks.no("a second time", x.straighten(6));
    }

    private static void nights() {
        Checks.says("n NIGHTS (0 .. 60; 0 is no thing done) go by: which it is; NONE, and nothing happens: no such n");
        refused("nights(0)", 5, x -> x.nights(0));
        refusedByNew("nights(0)", 0, x -> x.nights(0));
        Checks.due("nights(1)", busy().nights(1), 6);
        Checks.due("nights(60)", busy().nights(60), 65);
        for (int n : new int[] {LEAST, -60, -1, 61, 62, MOST}) refused("nights(" + n + ")", -1, x -> x.nights(n));
        CoatHangers x = busy();
        x.nights(60);
        CoatHangers y = busy();
        for (int i = 0; i < 60; i++) y.nights(1);
        for (int p = 0; p < 3; p++) for (int what = 0; what < 6; what++) Checks.due("as 60 times one", x.person(p, what), y.person(p, what));
        Checks.due("one thing done", x.count(9), 4);
    }

    private static void undo() {
        Checks.says("false: there is none (the last 40 can be)");
        refusedByNew("undo()", 0, x -> as(x.undo()));
        for (int done : new int[] {1, 39, 40, 41, 79, 80, 81, 100}) {
            CoatHangers x = new CoatHangers();
            for (int i = 0; i < done; i++) x.nights(1);
            int can = Math.min(40, done);
            Checks.due("things that can be undone of " + done, x.count(9), can);
            for (int i = 1; i <= can; i++) {
                Checks.yes("undo " + i + " of " + done, x.undo());
                Checks.due("night", x.count(2), done - i);
                Checks.due("left", x.count(9), can - i);
            }
            Checks.no("one more of " + done, x.undo());
            Checks.due("night", x.count(2), done - can);
        }
        CoatHangers x = new CoatHangers();
        for (int i = 0; i < 45; i++) x.nights(1);
        for (int i = 0; i < 10; i++) x.undo();
        Checks.due("45 done, 10 undone", x.count(9), 30);
        for (int i = 0; i < 20; i++) x.nights(2);
        Checks.due("20 more done", x.count(9), 40);
        for (int i = 0; i < 40; i++) Checks.yes("undo " + i, x.undo());
        Checks.no("a 41st", x.undo());
        Checks.due("night", x.count(2), 15);
        Checks.says("The last thing done (hang, take, change, straighten, nights) is undone");
        Checks.Call[] things = {y -> as(y.hang(2, 3)), y -> as(y.take(0)), y -> as(y.change(0, 1)), y -> as(y.straighten(2)), y -> y.nights(60)};
        for (int i = 0; i < things.length; i++) {
            CoatHangers y = busy();
            Checks.due("thing " + i, Math.min(1, things[i].on(y)), 1);
            Checks.due("it can be undone", y.count(9), 4);
            Checks.yes("undo()", y.undo());
            Checks.alike("thing " + i + " undone,", y, busy());
        }
        Checks.says("what is TOLD, held, fed, is no thing done");
        x = Checks.world(FULL);
        x.tell(0, 0, true);
        x.forget();
        x.hold(0);
        x.feed(1, 2, 3, 4, 5);
        x.back(20);
        Checks.no("undo()", x.undo());
    }

    // ---- promises 15 to 17

    private static void plans() {
        Checks.says("hanging: how much (i NONE), else the HANGER of the i-th PERSON (-2: none); NONE: no such PERSON");
        CoatHangers x = Checks.world(FULL);
        Checks.due("hanging(-1)", x.hanging(-1), 0);
        Checks.due("hanging(0)", x.hanging(0), 0);
        Checks.due("hanging(5)", x.hanging(5), 5);
        Checks.due("hanging(6)", x.hanging(6), -1);
        Checks.says("apart: likewise");
        Checks.due("apart(0)", x.apart(0), 0);
        Checks.due("apart(6)", x.apart(6), -1);
        // five of six on five nails: s, t and u each go on to the next hanger, ten wider
        Checks.due("apart(-1)", x.apart(-1), 30);
        Checks.due("apart(1)", x.apart(1), -2);
        Checks.due("apart(2)", x.apart(2), 2);
        Checks.due("apart(3)", x.apart(3), 4);
        Checks.due("apart(5)", x.apart(5), 6);
        for (int i : new int[] {LEAST, -3, -2, 6, 7, MOST}) {
            Checks.due("hanging(" + i + ")", x.hanging(i), -1);
            Checks.due("apart(" + i + ")", x.apart(i), -1);
        }
        x = new CoatHangers();
        Checks.due("nobody", x.hanging(-1), 0);
        Checks.due("nobody", x.apart(-1), 0);
        Checks.due("nobody", x.hanging(0), -1);
        Checks.due("nobody", x.apart(0), -1);
        Checks.says("HANGING: as many as can be");
        x = Checks.world("person p 5 1;person q 6 1;");
        Checks.due("no hangers", x.hanging(-1), 0);
        Checks.due("no hangers", x.hanging(1), -2);
        Checks.due("no hangers", x.apart(1), -2);
        x = Checks.world("hanger a 0 6;person p 5 1;person q 6 1;");
        Checks.due("one hanger for two", x.hanging(-1), 0);
        Checks.due("one hanger for two", x.hanging(0), -2);
        Checks.due("one hanger for two", x.hanging(1), 0);
        x = Checks.world("hanger a 0 99;hanger b 0 99;person p 0 1;person q 0 1;");
        Checks.due("dear, but as many as can be", x.hanging(-1), 198);
        Checks.due("one of a nail", x.apart(-1), 99);
        x = Checks.world(FULL + "costs=99;");
        Checks.due("all cost most", x.hanging(-1), 594);
        Checks.due("all cost most", x.apart(-1), 495);
        x = Checks.world(FULL + "costs=0;");
        for (int p = 0; p < 6; p++) Checks.due("of alike ones the lowest, " + p, x.hanging(p), p);
        int[] alone = {0, 2, 4, 5, 6, -2};
        for (int p = 0; p < 6; p++) Checks.due("nothing behind all, " + p, x.apart(p), alone[p]);
        Checks.says("WAYS: nobody COSTING more than v (0 .. 99); NONE: no such v");
        x = Checks.world("hanger a 0 10;hanger b 1 20;person p 10 0;person q 15 0;");
        Checks.due("ways(99)", x.ways(99), 2);
        Checks.due("ways(10)", x.ways(10), 2);
        Checks.due("ways(9)", x.ways(9), 1);
        Checks.due("ways(5)", x.ways(5), 1);
        Checks.due("ways(4)", x.ways(4), 0);
        Checks.due("ways(0)", x.ways(0), 0);
        for (int v : new int[] {LEAST, -2, -1, 100, 101, MOST}) {
            Checks.due("ways(" + v + ")", x.ways(v), -1);
            Checks.due("ways(" + v + ") of nobody", new CoatHangers().ways(v), -1);
        }
        Checks.due("costing 99", Checks.world(ONE + "costs=200;").ways(99), 1);
        Checks.due("costing 99", Checks.world(ONE + "costs=200;").ways(98), 0);
        Checks.due("costing 0", Checks.world(ONE).ways(0), 1);
        Checks.due("nobody", new CoatHangers().ways(0), 1);
        Checks.due("nobody", new CoatHangers().ways(99), 1);
        Checks.due("no hangers", Checks.world("person p 1 1;").ways(99), 0);
        Checks.due("six on five nails", Checks.world(FULL).ways(99), 0);
        x = Checks.world(FULL.replace("person u 60 5;", "").replace("hangs u f;", ""));
        // five on five nails, two hangers on each of two
        Checks.due("five on five nails", x.ways(99), 120 * 2 * 2);
    }

    // ---- promises 18 to 21, 28, 30, 32

    private static void selves() {
        Checks.says("SETS, CHANGES: who is their own is one");
        CoatHangers x = new CoatHangers();
        Checks.due("nobody", x.sets(), 0);
        Checks.due("nobody", x.changes(), 0);
        x = Checks.world(ONE_NAIL);
        Checks.due("all their own", x.sets(), 6);
        Checks.due("all their own", x.changes(), 0);
        x.nights(1);
        Checks.due("one ring", x.sets(), 1);
        Checks.due("one ring", x.changes(), 5);
        x.nights(1);
        Checks.due("two rings of three", x.sets(), 2);
        Checks.due("two rings of three", x.changes(), 4);
        x.nights(1);
        Checks.due("three rings of two", x.sets(), 3);
        Checks.due("three rings of two", x.changes(), 3);
        Checks.says("CROSSED: what 0 how many, 1 the first (-2: none). NONE for others");
        Checks.due("three", x.crossed(0), 3);
        Checks.due("the first", x.crossed(1), 3);
        for (int what : new int[] {LEAST, -2, -1, 2, MOST}) {
            Checks.due("crossed(" + what + ")", x.crossed(what), -1);
            Checks.due("crossed(" + what + ") of nobody", new CoatHangers().crossed(what), -1);
        }
        Checks.due("none of nobody", new CoatHangers().crossed(0), 0);
        Checks.due("none of nobody", new CoatHangers().crossed(1), -2);
        x.nights(3);
        Checks.due("all their own", x.crossed(0), 0);
        Checks.due("all their own", x.crossed(1), -2);
        x = Checks.world(FULL.replace("d 1 40", "d 0 40").replace("c 1 30", "c 2 30").replace("f 3 60", "f 0 60"));
        x.take(0);
        x.take(1);
        x.nights(1);
        // s and u on nail 0, r and t on nail 2
        Checks.due("two", x.crossed(0), 2);
        Checks.due("the first", x.crossed(1), 24);
        themselves();
        Checks.says("HOLDER; NONE: no such SELF");
        x = Checks.world(ONE_NAIL);
        x.nights(1);
        Checks.due("holder(0)", x.holder(0), 5);
        Checks.due("holder(5)", x.holder(5), 4);
        for (int self : new int[] {LEAST, -2, -1, 6, MOST}) Checks.due("holder(" + self + ")", x.holder(self), -1);
        Checks.due("of nobody", new CoatHangers().holder(0), -1);
    }

    /** Six turn round in 6 nights at most, so that which of 6 .. 240 is the last night can't be seen. */
    private static void themselves() {
        Checks.says("THEMSELVES (0: now); -2: not");
        Checks.due("nobody", new CoatHangers().themselves(), 0);
        CoatHangers x = Checks.world(ONE_NAIL);
        Checks.due("now", x.themselves(), 0);
        for (int left = 5; left >= 0; left--) {
            x.nights(1);
            Checks.due("behind " + left, x.themselves(), left);
        }
        x.nights(1);
        x.take(3);
        Checks.due("not", x.themselves(), -2);
        Checks.says("ROUND: behind how many NIGHTS (1 .. 240)");
        Checks.due("nobody", new CoatHangers().round(), 1);
        Checks.due("nobody shares", Checks.world(ONE).round(), 1);
        Checks.due("two and two", Checks.world(FULL).round(), 2);
        Checks.due("six", Checks.world(ONE_NAIL).round(), 6);
        Checks.due("five", x.round(), 5);
        Checks.says("DAY (0: now); -2: not; NONE: no such PERSON");
        x = Checks.world(ONE_NAIL);
        Checks.due("now", x.day(5), 0);
        x.nights(1);
        for (int p = 0; p < 6; p++) Checks.due("day(" + p + ")", x.day(p), 5);
        x.nights(5);
        Checks.due("now", x.day(0), 0);
        x.nights(1);
        x.take(0);
        Checks.due("not", x.day(0), -2);
        for (int p : new int[] {LEAST, -2, -1, 6, MOST}) Checks.due("day(" + p + ")", x.day(p), -1);
        Checks.due("of nobody", new CoatHangers().day(0), -1);
    }

    // ---- promises 22 to 27, 29, 31

    private static void fitMissed() {
        Checks.says("FIT: what 0 which, 1 how much; -2: no HANGERS; NONE: no such ones");
        CoatHangers x = Checks.world(FULL);
        Checks.due("the last one", x.fit(5, 0), 5);
        Checks.due("the last one", x.fit(5, 1), 0);
        CoatHangers none = Checks.world("person p 1 1;");
        Checks.due("no hangers", none.fit(0, 0), -2);
        Checks.due("no hangers", none.fit(0, 1), -2);
        for (int n : new int[] {LEAST, -2, -1, 6, MOST}) {
            Checks.due("fit(" + n + ", 0)", x.fit(n, 0), -1);
            Checks.due("fit(" + n + ", 1)", x.fit(n, 1), -1);
            Checks.due("fit(" + n + ", 0) without hangers", none.fit(n, 0), -1);
        }
        for (int what : new int[] {LEAST, -2, -1, 2, MOST}) {
            Checks.due("fit(0, " + what + ")", x.fit(0, what), -1);
            Checks.due("fit(0, " + what + ") without hangers", none.fit(0, what), -1);
        }
        Checks.due("nobody", new CoatHangers().fit(0, 0), -1);
        Checks.due("the last hanger fits", Checks.world(FULL + "costs=4-nail;").fit(0, 0), 6);
        Checks.due("all cost most", Checks.world(FULL + "costs=200;").fit(0, 0), 0);
        Checks.due("all cost most", Checks.world(FULL + "costs=200;").fit(0, 1), 99);
        Checks.due("nobody is beside", Checks.world(ONE_NAIL + "costs=beside*50+7;").fit(5, 1), 7);
        Checks.says("MISSED: what 0 which, 1 how much; -2: no HANGERS. NONE for others");
        Checks.due("no hangers", none.missed(0), -2);
        Checks.due("no hangers", none.missed(1), -2);
        Checks.due("nothing", new CoatHangers().missed(0), -2);
        for (int what : new int[] {LEAST, -2, -1, 2, MOST}) {
            Checks.due("missed(" + what + ")", x.missed(what), -1);
            Checks.due("missed(" + what + ") without hangers", none.missed(what), -1);
        }
        Checks.due("nobody to hang", Checks.world("hanger a 1 1;hanger b 1 1;").missed(0), 0);
        Checks.due("nobody to hang", Checks.world("hanger a 1 1;hanger b 1 1;").missed(1), 0);
        Checks.due("the only one", Checks.world(ONE).missed(0), 0);
        Checks.due("then nobody is hung", Checks.world(ONE + "costs=9;").missed(1), 0);
        // p to u move up by one each without a, ten each
        Checks.due("missed(0)", x.missed(0), 0);
        Checks.due("missed(1)", x.missed(1), 60);
        Checks.due("all cost most", Checks.world(FULL + "costs=99;").missed(1), 594);
        Checks.due("fewer can be hung then", Checks.world(FULL.replace("hanger g 4 70;", "") + "costs=99;").missed(1), 495);
    }

    private static void crowdedStraightFree() {
        Checks.says("CROWDED: (0, 0: all on the FLOOR). NONE for others");
        Checks.due("nobody", new CoatHangers().crowded(0), 0);
        Checks.due("nobody", new CoatHangers().crowded(1), 0);
        CoatHangers x = Checks.world("hanger a 4 1;person p 1 1;");
        Checks.due("on the floor", x.crowded(0), 0);
        Checks.due("on the floor", x.crowded(1), 0);
        x.hang(0, 0);
        Checks.due("the last nail", x.crowded(0), 4);
        Checks.due("one", x.crowded(1), 1);
        Checks.due("all six", Checks.world(ONE_NAIL).crowded(1), 6);
        for (int what : new int[] {LEAST, -2, -1, 2, MOST}) {
            Checks.due("crowded(" + what + ")", x.crowded(what), -1);
            Checks.due("crowded(" + what + ") of nobody", new CoatHangers().crowded(what), -1);
        }
        Checks.says("STRAIGHT; -2: nobody is on a HANGER");
        Checks.due("nobody", new CoatHangers().straight(), -2);
        Checks.due("on the floor", Checks.world("hanger a 0 1;person p 1 1;").straight(), -2);
        Checks.due("one", x.straight(), 0);
        x = Checks.world(ONE_NAIL + "crooks=if which<5 then 99 else 98;");
        Checks.due("of alike ones the first", x.straight(), 0);
        x.nights(10);
        Checks.due("980 to 990", x.straight(), 5);
        x.nights(2);
        Checks.due("999 all", x.straight(), 0);
        Checks.says("FREE: -2: none. NONE for others");
        Checks.due("nothing", new CoatHangers().free(0), -2);
        Checks.due("nothing", new CoatHangers().free(1), -2);
        Checks.due("taken", Checks.world(ONE).free(0), -2);
        Checks.due("taken", Checks.world(ONE).free(1), -2);
        Checks.due("0 wide", Checks.world("hanger a 0 0;").free(0), 0);
        Checks.due("0 wide", Checks.world("hanger a 0 0;").free(1), 0);
        Checks.due("of alike ones the first", Checks.world("hanger a 0 5;hanger b 0 9;hanger c 0 9;").free(0), 1);
        x = Checks.world(FULL);
        Checks.due("the last one", x.free(0), 6);
        Checks.due("the last one", x.free(1), 70);
        for (int what : new int[] {LEAST, -2, -1, 2, MOST}) {
            Checks.due("free(" + what + ")", x.free(what), -1);
            Checks.due("free(" + what + ") of none", new CoatHangers().free(what), -1);
        }
    }

    private static void billUprightSwap() {
        Checks.says("BILL of n NIGHTS (0 .. 60); NONE: no such n");
        CoatHangers x = Checks.world(FULL + "costs=200;slips=100;moth 100;");
        Checks.due("bill(0)", x.bill(0), 0);
        Checks.due("bill(1)", x.bill(1), 594);
        Checks.due("bill(60)", x.bill(60), 60 * 594);
        for (int n : new int[] {LEAST, -2, -1, 61, MOST}) {
            Checks.due("bill(" + n + ")", x.bill(n), -1);
            Checks.due("bill(" + n + ") of nobody", new CoatHangers().bill(n), -1);
        }
        Checks.due("nobody", new CoatHangers().bill(60), 0);
        Checks.due("on the floor", Checks.world("hanger a 0 1;person p 1 1;costs=5;").bill(60), 0);
        Checks.says("UPRIGHT: CROOKED by less than v (1 .. 999) behind n NIGHTS (0 .. 60); NONE: no such ones");
        x = Checks.world(ONE + "person q 5 5;crooks=if crooked<990 then 99 else if crooked<998 then 8 else 1;slips=100;");
        Checks.due("upright(0, 1)", x.upright(0, 1), 3);
        Checks.due("upright(1, 99)", x.upright(1, 99), 2);
        Checks.due("upright(1, 100)", x.upright(1, 100), 3);
        Checks.due("upright(11, 998), is 998", x.upright(11, 998), 2);
        Checks.due("upright(11, 999), is 998", x.upright(11, 999), 3);
        Checks.due("upright(12, 999), is 999", x.upright(12, 999), 2);
        Checks.due("upright(60, 999)", x.upright(60, 999), 2);
        for (int n : new int[] {LEAST, -2, -1, 61, MOST}) Checks.due("upright(" + n + ", 1)", x.upright(n, 1), -1);
        for (int v : new int[] {LEAST, -1, 0, 1000, MOST}) Checks.due("upright(1, " + v + ")", x.upright(1, v), -1);
        Checks.due("nobody", new CoatHangers().upright(60, 999), 0);
        Checks.due("all six", Checks.world(FULL).upright(60, 1), 63);
        Checks.says("upright: who lies on the FLOOR is still as CROOKED behind no NIGHTS");
        x = Checks.world(ONE + "crooks=10;");
        x.nights(1);
        x.take(0);
        Checks.due("upright(0, 10)", x.upright(0, 10), 0);
        Checks.due("upright(1, 1)", x.upright(1, 1), 1);
        Checks.says("SWAP: less by most (by 1 or more); -2: none. NONE for others");
        x = Checks.world("hanger a 0 10;hanger b 1 11;person p 10 0;person q 10 0;hangs p a;hangs q b;");
        Checks.due("by 0", x.swap(0), -2);
        Checks.due("by 0", x.swap(1), -2);
        x = Checks.world("hanger a 0 10;hanger b 1 11;person p 11 0;person q 11 0;hangs p a;hangs q b;costs=if apart<1 then 5 else apart-which;");
        // p costs 1, q 5; changed: p 5, q 0
        Checks.due("by 1", x.swap(0), 1);
        Checks.due("by 1", x.swap(1), 1);
        x.change(0, 1);
        Checks.due("by less than 0", x.swap(0), -2);
        Checks.due("by less than 0", x.swap(1), -2);
        for (int what : new int[] {LEAST, -2, -1, 2, MOST}) {
            Checks.due("swap(" + what + ")", x.swap(what), -1);
            Checks.due("swap(" + what + ") of nobody", new CoatHangers().swap(what), -1);
        }
        Checks.due("nobody", new CoatHangers().swap(0), -2);
        Checks.due("nobody", new CoatHangers().swap(1), -2);
        Checks.due("one alone", Checks.world(ONE).swap(0), -2);
        x = Checks.world("hanger a 0 10;hanger b 1 50;person p 10 0;person q 50 0;hangs p b;");
        Checks.due("the other on the floor", x.swap(0), -2);
        Checks.due("the one on the floor", Checks.world("hanger a 0 10;hanger b 1 50;person p 10 0;person q 50 0;hangs q a;").swap(0), -2);
        x = Checks.world(FULL);
        x.change(4, 5);
        Checks.due("the last two", x.swap(0), 45);
        Checks.due("the last two", x.swap(1), 20);
        x = Checks.world(ONE_NAIL);
        x.change(0, 5);
        Checks.due("first and last", x.swap(0), 5);
        Checks.due("first and last", x.swap(1), 100);
    }

    // ---- promises 33 to 35

    private static void ahead() {
        Checks.says("IN n NIGHTS (0 .. 60; with all); NONE: no such ones");
        CoatHangers x = Checks.world(ONE_NAIL + "bends=1;crooks=2;");
        Checks.due("then(5, 0, 0)", x.then(5, 0, 0), 5);
        Checks.due("then(5, 1, 0)", x.then(5, 1, 0), 0);
        Checks.due("then(5, 59, 0)", x.then(5, 59, 0), 4);
        Checks.due("then(5, 60, 0)", x.then(5, 60, 0), 5);
        Checks.due("then(5, 60, 1)", x.then(5, 60, 1), 120);
        Checks.due("then(5, 60, 2)", x.then(5, 60, 2), 5);
        Checks.due("on the floor", Checks.world("person p 1 1;").then(0, 60, 2), -2);
        for (int what = 0; what <= 2; what++) {
            int w = what;
            for (int n : new int[] {LEAST, -1, 61, MOST}) Checks.due("then(0, " + n + ", " + w + ")", x.then(0, n, w), -1);
            for (int p : new int[] {LEAST, -2, -1, 6, MOST}) Checks.due("then(" + p + ", 1, " + w + ")", x.then(p, 1, w), -1);
        }
        for (int what : new int[] {LEAST, -2, -1, 3, MOST}) Checks.due("then(0, 1, " + what + ")", x.then(0, 1, what), -1);
        Checks.due("nobody", new CoatHangers().then(0, 0, 0), -1);
        Checks.says("IN n NIGHTS how bent a HANGER is; NONE: no such ones");
        Checks.due("bentIn(0, 0)", x.bentIn(0, 0), 0);
        Checks.due("bentIn(5, 60)", x.bentIn(5, 60), 60);
        Checks.due("bentIn(6, 60)", x.bentIn(6, 60), 0);
        for (int h : NEVER) Checks.due("bentIn(" + h + ", 1)", x.bentIn(h, 1), -1);
        for (int n : new int[] {LEAST, -1, 61, MOST}) Checks.due("bentIn(0, " + n + ")", x.bentIn(0, n), -1);
        Checks.due("none", new CoatHangers().bentIn(0, 0), -1);
        Checks.due("99 at most", Checks.world(ONE + "bends=2;").bentIn(0, 60), 99);
        Checks.says("IN n NIGHTS is as if they went by");
        CoatHangers y = busy();
        int[] due = new int[9];
        for (int p = 0; p < 3; p++) for (int what = 0; what < 3; what++) due[3 * p + what] = y.then(p, 60, what);
        int bent = y.bentIn(0, 60);
        y.nights(60);
        for (int p = 0; p < 3; p++) {
            Checks.due("self", y.person(p, 3), due[3 * p]);
            Checks.due("crooked", y.person(p, 4), due[3 * p + 1]);
            Checks.due("where", y.person(p, 2), due[3 * p + 2]);
        }
        Checks.due("bent", y.hanger(0, 2), bent);
    }

    /** In how many of the SEEDS from one on the LOT of night 0 and which 0 is not less than slips. */
    private static int stay(int seed, int s, int slips) {
        int stay = 0;
        for (int i = 0; i < s; i++) stay += Model.lot(100, seed + i, 0) < slips ? 0 : 1;
        return stay;
    }

    private static void years() {
        Checks.says("YEAR by s SEEDS (1 .. 20) from the text's SEED on, in n NIGHTS (0 .. 60); NONE: no such ones");
        for (int seed : new int[] {0, 500, 9980, 9981, 9999}) {
            CoatHangers x = Checks.world(ONE + "slips=50;seed " + seed + ";");
            for (int s = 1; s <= 20; s++) Checks.due("year(0, 1, " + s + ") from " + seed, x.year(0, 1, s), stay(seed, s, 50));
        }
        CoatHangers x = Checks.world(ONE + "person q 1 1;slips=if night<59 then 0 else 100;");
        Checks.due("year(0, 0, 1)", x.year(0, 0, 1), 1);
        Checks.due("year(0, 59, 20)", x.year(0, 59, 20), 20);
        Checks.due("year(0, 60, 20)", x.year(0, 60, 20), 0);
        Checks.due("on the floor", x.year(1, 0, 20), 0);
        for (int n : new int[] {LEAST, -1, 61, MOST}) Checks.due("year(0, " + n + ", 1)", x.year(0, n, 1), -1);
        for (int s : new int[] {LEAST, -1, 0, 21, MOST}) Checks.due("year(0, 1, " + s + ")", x.year(0, 1, s), -1);
        for (int p : new int[] {LEAST, -2, -1, 2, MOST}) Checks.due("year(" + p + ", 1, 1)", x.year(p, 1, 1), -1);
        Checks.due("nobody", new CoatHangers().year(0, 0, 1), -1);
        Checks.due("the last person", Checks.world(FULL).year(5, 60, 20), 20);
        Checks.due("none behind it", Checks.world(FULL).year(6, 60, 20), -1);
    }

    // ---- promises 36 to 39

    private static CoatHangers toldBy(int many) {
        CoatHangers x = Checks.world(FULL);
        for (int i = 0; i < many; i++) x.tell(i % 6, 5, false);
        return x;
    }

    private static void told() {
        Checks.says("It is TOLD: its number; NONE, and nothing happens: 20 are there, no such PEOPLE");
        Checks.due("the first", toldBy(0).tell(5, 5, true), 0);
        Checks.due("the 20th", toldBy(19).tell(0, 0, false), 19);
        Checks.refused(() -> toldBy(20), "a 21st", -1, x -> x.tell(0, 0, false));
        Checks.refused(() -> toldBy(20), "a 21st of nobody", -1, x -> x.tell(6, 0, false));
        for (int n : new int[] {LEAST, -2, -1, 3, MOST}) {
            refused("tell(" + n + ", 0)", -1, x -> x.tell(n, 0, true));
            refused("tell(0, " + n + ")", -1, x -> x.tell(0, n, false));
        }
        Checks.due("the last one and self", busy().tell(2, 2, true), 2);
        refusedByNew("tell(0, 0)", -1, x -> x.tell(0, 0, true));
        Checks.says("All that was TOLD is forgotten: how many there were");
        refusedByNew("forget()", 0, CoatHangers::forget);
        CoatHangers x = toldBy(20);
        Checks.due("forget()", x.forget(), 20);
        Checks.due("told", x.count(10), 0);
        Checks.due("forget()", x.forget(), 0);
        Checks.due("numbers begin again", x.tell(0, 0, true), 0);
        two();
    }

    private static void two() {
        Checks.says("TWO: NONE: no such k, not so many, i below NONE");
        CoatHangers x = Checks.world(FULL);
        Checks.due("of six", x.two(0, -1), 15);
        Checks.due("the first", x.two(0, 0), 1);
        Checks.due("the last", x.two(0, 14), 45);
        for (int i : new int[] {15, 16, MOST, -2, -3, LEAST}) Checks.due("two(0, " + i + ")", x.two(0, i), -1);
        for (int k : new int[] {1, 2, 20, 21, MOST, -1, -2, LEAST}) {
            Checks.due("two(" + k + ", -1)", x.two(k, -1), -1);
            Checks.due("two(" + k + ", 0)", x.two(k, 0), -1);
            Checks.due("ask(" + k + ")", x.ask(k), -1);
        }
        x = toldBy(20);
        Checks.yes("two(20, -1)", x.two(20, -1) >= 0);
        Checks.due("two(21, -1)", x.two(21, -1), -1);
        Checks.yes("ask(20)", x.ask(20) != -1);
        Checks.due("ask(21)", x.ask(21), -1);
        Checks.says("KNOWN by k: the first k");
        x = Checks.world(FULL);
        for (int i = 0; i < 19; i++) x.tell(0, 1, true);
        x.tell(0, 1, false);
        Checks.due("two(0, -1)", x.two(0, -1), 15);
        Checks.due("two(1, -1)", x.two(1, -1), x.two(19, -1));
        Checks.due("two(20, -1)", x.two(20, -1), 0);
        Checks.due("two(20, 0)", x.two(20, 0), -1);
        Checks.says("ASK: -2: none is left; NONE: no such k");
        Checks.due("ask(20)", x.ask(20), -2);
        Checks.yes("ask(19)", x.ask(19) >= 0);
        Checks.due("nobody", new CoatHangers().ask(0), -2);
        Checks.due("nobody", new CoatHangers().two(0, -1), 0);
        Checks.due("nobody", new CoatHangers().two(0, 0), -1);
        Checks.due("nobody", new CoatHangers().ask(1), -1);
        Checks.says("two unknown who are on HANGERS");
        Checks.due("one alone", Checks.world(ONE).two(0, -1), 0);
        Checks.due("one alone", Checks.world(ONE).ask(0), -2);
        Checks.due("one on the floor", busy().two(0, -1), 1);
        Checks.due("on the floor all", Checks.world("person p 1 1;person q 1 1;").two(0, -1), 0);
        x = Checks.world(ONE + "hanger b 1 9;person q 9 0;hangs q b;");
        Checks.due("two", x.two(0, -1), 1);
        Checks.due("two, one left whoever is asked", x.ask(0), 0);
        x.tell(0, 0, true);
        Checks.due("each alone keeps their own", x.two(1, 0), 1);
        x.tell(0, 1, true);
        Checks.due("that can't be", x.two(2, -1), 0);
    }

    // ---- promises 40 to 42

    private static void held() {
        Checks.says("held in a SLOT (0 .. 2): true; false: no such one");
        for (int slot = 0; slot <= 2; slot++) Checks.yes("hold(" + slot + ")", busy().hold(slot));
        for (int slot : new int[] {LEAST, -2, -1, 3, 31, 32, MOST}) refused("hold(" + slot + ")", 0, x -> as(x.hold(slot)));
        Checks.yes("by a new object", new CoatHangers().hold(2));
        Checks.says("restore: false, and nothing happens: no such one, nothing is held");
        Checks.yes("restore(1)", busy().restore(1));
        for (int slot : new int[] {LEAST, -2, -1, 0, 2, 3, 31, 32, 33, MOST}) refused("restore(" + slot + ")", 0, x -> as(x.restore(slot)));
        refusedByNew("restore(0)", 0, x -> as(x.restore(0)));
        Checks.says("It goes on from what a SLOT holds (that stays there; nothing can be undone then)");
        CoatHangers x = busy();
        x.restore(1);
        Checks.due("night", x.count(2), 3);
        Checks.due("nothing can be undone", x.count(9), 0);
        Checks.no("undo()", x.undo());
        Checks.due("told stays", x.count(10), 2);
        Checks.due("the tape stays", x.count(8), 17);
        x.nights(60);
        Checks.yes("again", x.restore(1));
        Checks.due("night", x.count(2), 3);
        Checks.due("hung", x.count(3), 7);
        for (int i = 0; i < 41; i++) x.nights(1);
        Checks.yes("from 40 things done", x.restore(1));
        Checks.due("nothing can be undone", x.count(9), 0);
        Checks.says("a SLOT is held anew; each is its own");
        x = new CoatHangers();
        for (int slot = 0; slot <= 2; slot++) {
            x.nights(1);
            x.hold(slot);
        }
        for (int slot = 2; slot >= 0; slot--) {
            x.restore(slot);
            Checks.due("night of slot " + slot, x.count(2), slot + 1);
        }
        x.hold(2);
        x.nights(9);
        x.restore(2);
        Checks.due("held anew", x.count(2), 1);
        x.restore(1);
        Checks.due("the other one", x.count(2), 2);
    }

    private static void counts() {
        Checks.says("count: NONE for others");
        for (int what : new int[] {LEAST, -2, -1, 15, 16, MOST}) {
            Checks.due("count(" + what + ")", busy().count(what), -1);
            Checks.due("count(" + what + ") of a new one", new CoatHangers().count(what), -1);
        }
        for (int what = 0; what <= 14; what++) Checks.due("count(" + what + ") of a new one", new CoatHangers().count(what), 0);
        CoatHangers x = Checks.world(ONE_NAIL + "crooks=99;bends=99;costs=99;moth 100;");
        x.nights(60);
        int[] most = {7, 6, 60, 63, 63, 63, 6 * 999, 6 * 99, 0, 1, 0, 0, 1, 6 * 99, 4};
        for (int what = 0; what <= 14; what++) Checks.due("count(" + what + ") of a full one", x.count(what), most[what]);
        Checks.says("NAILS of whose HANGERS are two PEOPLE or more (bits)");
        Checks.due("two and two", Checks.world(FULL).count(14), 3);
        Checks.due("one alone", Checks.world(ONE).count(14), 0);
        Checks.due("the last nail", Checks.world(FULL.replaceAll("(hanger \\w) \\d", "$1 4")).count(14), 16);
        Checks.says("the last HANGER, the last PERSON (bits)");
        x = Checks.world("hanger a 0 1;hanger b 0 1;hanger c 0 1;hanger d 0 1;hanger e 0 1;hanger f 0 1;hanger g 0 1;"
            + "person p 0 1;person q 0 1;person r 0 1;person s 0 1;person t 0 1;person u 0 1;hangs u g;");
        Checks.due("who is on a hanger", x.count(3), 32);
        Checks.due("hangers with a person", x.count(4), 64);
        Checks.says("SLOTS that hold something");
        x = new CoatHangers();
        x.hold(2);
        Checks.due("one", x.count(11), 1);
        x.hold(2);
        Checks.due("still one", x.count(11), 1);
        x.hold(0);
        x.hold(1);
        Checks.due("all three", x.count(11), 3);
    }

    private static void askingChangesNothing() {
        Checks.says("What would be (nothing happens)");
        Checks.Call[] asks = {
            x -> x.place(), x -> x.hanger(0, 2), x -> x.person(0, 4), x -> x.tells(0, 3), x -> x.hanging(-1), x -> x.hanging(1),
            x -> x.apart(-1), x -> x.apart(2), x -> x.ways(99), x -> x.sets(), x -> x.changes(), x -> x.themselves(), x -> x.crossed(0),
            x -> x.fit(0, 0), x -> x.missed(0), x -> x.crowded(0), x -> x.straight(), x -> x.bill(60), x -> x.swap(0), x -> x.round(),
            x -> x.upright(60, 5), x -> x.holder(0), x -> x.free(0), x -> x.day(1), x -> x.then(1, 60, 0), x -> x.bentIn(1, 60),
            x -> x.year(1, 60, 20), x -> x.two(2, -1), x -> x.two(0, 0), x -> x.ask(0), x -> x.ask(2), x -> x.count(13), x -> x.count(12)};
        for (int i = 0; i < asks.length; i++) {
            CoatHangers x = busy();
            int answer = asks[i].on(x);
            Checks.due("ask " + i + " a second time", asks[i].on(x), answer);
            Checks.alike("behind ask " + i, x, busy());
        }
    }
}

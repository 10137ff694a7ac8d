/** The sentences of part I of the document that name a bound, each with the last that is taken and the first that is not. */
public final class TextEdgesTest {
    private static final String[] WORDS = ("hanger person hangs crooks bends slips costs moth seed if then else "
        + "apart bent wide rank night crooked beside which nail").split(" ");

    /** Every sort of TELL, every word and every sign; a blank between any two TOKENS. */
    private static final String ALL = "hanger h 0 1 ; hanger i 4 99 ; person p 0 9 ; hangs p h ; moth 100 ; seed 9999 ; "
        + "crooks = if ( apart + 1 - bent ) * 2 / 3 < wide then rank else if night < 1 then crooked else beside ; "
        + "bends = which ; slips = nail ; costs = ( ( 1 ) ) ;";

    private static final String SEVEN = "hanger a 0 1;hanger b 0 1;hanger c 0 1;hanger d 0 1;hanger e 0 1;hanger f 0 1;hanger g 0 1;";
    private static final String SIX = "person p 0 1;person q 0 1;person r 0 1;person s 0 1;person t 0 1;person u 0 1;";
    /** 400 TOKENS. */
    private static final String FULL = "costs=1" + Checks.times(198, "+1") + ";";
    /** 399 TOKENS. */
    private static final String ODD = Checks.times(133, "seed 1;");

    public static void main(String[] args) {
        bytes();
        blanks();
        names();
        ints();
        signs();
        grammar();
        sorts();
        tokens401();
        ifs();
        parens();
        firstByPlace();
        twice();
        names4();
        wrongNumbers();
        lastOnes();
        faultChangesNothing();
        inPlaceOfTheOneAhead();
        Checks.end("edges of texts");
    }

    private static void bytes() {
        Checks.says("A TEXT has 2,000 bytes at most.");
        String blanks = Checks.times(1987, " ");
        CoatHangers x = Checks.world(blanks + "hanger a 3 1;");
        Checks.due("hangers", x.count(0), 1);
        Checks.due("the 2,000th byte ends it", x.hanger(0, 0), 3);
        Checks.fault(0, "hanger a 3 1;" + blanks);
        Checks.fault(0, Checks.times(2000, "\n"));
        Checks.says("the text's end: its length");
        Checks.fault(1, blanks + "hanger a 3 10@");
        Checks.fault(1, "hanger" + Checks.times(1994, " ") + "@");
        Checks.fault(1, Checks.times(1999, " ") + "@?");
        Checks.fault(1, "seed@");
        Checks.fault(1, "seed @");
        Checks.fault(1, "seed 1@");
        Checks.fault(1, "seed 1 \r\n@");
    }

    private static boolean isBlank(int b) { return b == 9 || b == 10 || b == 13 || b == 32; }
    private static boolean isLetter(int b) { return b >= 97 && b <= 122; }
    private static boolean isDigit(int b) { return b >= 48 && b <= 57; }

    private static void blanks() {
        Checks.says("with blanks (9, 10, 13, 32) between or not");
        Checks.fault(0, "moth5;seed6;");
        Checks.fault(0, "\t\r\n moth\t\r\n 5\t\r\n ;\t\r\n ");
        for (int b = 0; b < 256; b++) {
            boolean isFine = isBlank(b) || isDigit(b);
            Checks.faultAt(isFine ? 0 : 1, isFine ? -1 : isLetter(b) ? 0 : 4, "moth" + (char) b + "5;");
            Checks.faultAt(isBlank(b) ? 0 : 1, isBlank(b) ? -1 : 0, "" + (char) b);
            Checks.faultAt(isFine ? 0 : 1, isFine ? -1 : b == ';' ? 7 : 6, "moth 1" + (char) b + ";");
        }
        Checks.says("TOKENS, the longest that can be");
        Checks.fault(1, "@mothmoth 5;");
        Checks.fault(1, "@mothseed;");
        Checks.fault(1, "hanger h 0 1 @2;");
        Checks.fault(0, "hanger h 0 12;");
        Checks.fault(1, "costs = @ifx < 2 then 3 else 4;");
        Checks.fault(1, "costs = if 1 < 2 @thenx else 4;");
        Checks.fault(0, "costs=if 1<2then 3else 4;");
        Checks.fault(0, "hanger h0 1;person p1 1;");
    }

    private static void names() {
        Checks.says("NAMES (letters a .. z, 8 at most, none of the words in quotes)");
        Checks.fault(0, "hanger a 0 1;hanger z 0 1;person abcdefgh 0 1;person zzzzzzzz 0 1;hangs abcdefgh z;hangs zzzzzzzz a;");
        Checks.fault(1, "hanger @` 0 1;");
        Checks.fault(1, "hanger @{ 0 1;");
        Checks.fault(1, "hanger @A 0 1;");
        Checks.fault(1, "hanger a@B 0 1;");
        Checks.fault(1, "hanger @abcdefghi 0 1;");
        Checks.fault(1, "person @zzzzzzzzz 0 1;");
        Checks.fault(1, "hangs @abcdefghi a;");
        Checks.fault(1, "hangs a @abcdefghi;");
        Checks.fault(1, "costs = @abcdefghi;");
        Checks.fault(1, "@hangerhan h 0 1;");
        Checks.fault(1, "hanger @" + Checks.times(1000, "a") + " 0 1;");
        for (String word : WORDS) {
            Checks.fault(1, "hanger @" + word + " 0 1;");
            Checks.fault(1, "person @" + word + " 0 1;");
            Checks.fault(1, "hangs @" + word + " h;");
            Checks.fault(1, "hangs p @" + word + ";");
            String shorter = word.substring(1);
            Checks.fault(0, "hanger " + shorter + " 0 1;hanger " + word + "x 0 1;person p 0 1;hangs p " + word + "x;");
        }
        Checks.says("a NAME, as long as it is, is another one than all others");
        CoatHangers x = Checks.world("hanger a 0 1;hanger aa 0 2;hanger aaaaaaaa 0 3;hanger aaaaaaab 0 4;hanger baaaaaaa 0 5;"
            + "hanger zzzzzzzz 0 6;hanger zzzzzzzy 0 7;person z 0 1;person zz 0 1;hangs z aaaaaaab;hangs zz zzzzzzzz;");
        Checks.due("person(0, 2)", x.person(0, 2), 3);
        Checks.due("person(1, 2)", x.person(1, 2), 5);
    }

    private static void ints() {
        Checks.says("INTS (1 to 4 digits)");
        for (String zeros : new String[] {"0", "00", "000", "0000"}) {
            Checks.fault(0, "hanger h " + zeros + " " + zeros + ";person p " + zeros + " " + zeros + ";moth " + zeros + ";seed " + zeros + ";costs=" + zeros + ";");
        }
        Checks.fault(0, "hanger h 0004 0099;person p 0099 0009;moth 0100;seed 9999;costs=9999;");
        Checks.fault(1, "hanger h @00000 1;");
        Checks.fault(1, "hanger h 0 @00001;");
        Checks.fault(1, "person p @00000 1;");
        Checks.fault(1, "person p 0 @00001;");
        Checks.fault(1, "moth @00001;");
        Checks.fault(1, "seed @10000;");
        Checks.fault(1, "costs = @10000;");
        Checks.fault(1, "costs = 1 + @00000;");
        Checks.fault(1, "seed @" + Checks.times(1000, "9") + ";");
        Checks.fault(1, "seed @-1;");
        CoatHangers x = Checks.world("hanger h 0003 0050;");
        Checks.due("hanger(0, 0)", x.hanger(0, 0), 3);
        Checks.due("hanger(0, 1)", x.hanger(0, 1), 50);
    }

    private static void signs() {
        Checks.says("A longer one, all else, is no TOKEN.");
        Checks.fault(0, "crooks=if(1+2-3*4/5)<6then 7else 8;");
        for (char sign : ">!:,.{}[]&|^%?'\"_~#$@".toCharArray()) {
            String head = "costs = 1 ";
            Checks.faultAt(1, head.length(), head + sign + " 2;");
        }
        Checks.fault(1, "costs = if 1 <@< 2 then 3 else 4;");
        Checks.fault(1, "costs = if 1 <@= 2 then 3 else 4;");
        Checks.fault(1, "costs =@= 1;");
        Checks.fault(1, "costs = 1 +@+ 1;");
        Checks.fault(1, "costs = 1 -@- 1;");
        Checks.fault(1, "costs = 1 *@/ 1;");
    }

    private static void grammar() {
        Checks.says("1 SYNTAX: a TOKEN, or what is none, with which no text goes on.");
        Checks.fault(0, "");
        Checks.fault(0, ALL);
        String[] tokens = ALL.split(" ");
        StringBuilder ahead = new StringBuilder();
        for (String token : tokens) {
            boolean isWhole = ahead.length() == 0 || ahead.charAt(ahead.length() - 2) == ';';
            Checks.faultAt(isWhole ? 0 : 1, isWhole ? -1 : ahead.length(), ahead.toString());
            Checks.faultAt(1, ahead.length(), ahead + "? " + token);
            Checks.faultAt(1, ahead.length(), ahead + "abcdefghi " + token);
            Checks.faultAt(1, ahead.length(), ahead + "12345 " + token);
            ahead.append(token).append(' ');
        }
        for (int i = 0; i < tokens.length; i++) nothingElseFits(tokens, i);
        Checks.says("LAW: '=' {'if' E '<' E 'then' E 'else'} E.");
        Checks.fault(1, "costs = if 1 < 2 then @if 1 < 2 then 3 else 4 else 5;");
        Checks.fault(1, "costs = if @if 1 < 2 then 3 else 4;");
        Checks.fault(1, "costs = 1 + @if 1 < 2 then 3 else 4;");
        Checks.fault(1, "costs = if (1 @< 2) then 3 else 4;");
        Checks.fault(1, "costs = if 1 < 2 then 3@;");
        Checks.fault(1, "costs = @else 3;");
        Checks.fault(1, "costs = 3 @else 4;");
        Checks.says("UNIT: INT | VAR | '(' E ')'.");
        Checks.fault(1, "costs = (@);");
        Checks.fault(1, "costs = 1 @(2);");
        Checks.fault(1, "costs = (1) @(2);");
        Checks.fault(1, "costs = @+1;");
        Checks.fault(1, "costs = (1@;");
        Checks.fault(1, "costs = 1@);");
        Checks.fault(1, "costs = ((((((1))))))@);");
        Checks.fault(1, "costs = @hanger;");
        Checks.fault(1, "costs = if (1 + 2 @then 3 else 4;");
        Checks.fault(1, "costs = if (1 + 2 @< 3) then 3 else 4;");
    }

    /** In place of a sign that must stand there, each other sign that fits nowhere near is SYNTAX at that place. */
    private static void nothingElseFits(String[] tokens, int i) {
        if (!tokens[i].equals(";")) return;
        StringBuilder ahead = new StringBuilder();
        for (int j = 0; j < i; j++) ahead.append(tokens[j]).append(' ');
        for (String other : new String[] {"=", "<", ")", "(", "seed", "x", "1", "if", "then", "else", "nail"}) {
            Checks.faultAt(1, ahead.length(), ahead + other);
        }
    }

    private static void sorts() {
        Checks.says("HANGERS, 7 at most");
        CoatHangers x = Checks.world(SEVEN);
        Checks.due("count(0)", x.count(0), 7);
        Checks.fault(2, SEVEN + "@hanger h 0 1;");
        Checks.fault(2, "seed 1;" + SEVEN + "moth 1;" + SIX + "@hanger h 0 1;");
        Checks.fault(2, SEVEN + "@hanger a 0 1;");
        Checks.fault(2, SEVEN + "@hanger h 5 100;");
        Checks.fault(2, SEVEN + "@hanger");
        Checks.fault(2, SEVEN + "@hanger;");
        Checks.says("PEOPLE, 6 at most");
        x = Checks.world(SIX);
        Checks.due("count(1)", x.count(1), 6);
        Checks.fault(0, SEVEN + SIX);
        Checks.fault(2, SIX + "@person v 0 1;");
        Checks.fault(2, SIX + SEVEN + "@person v 0 1;");
        Checks.fault(2, SIX + "@person p 0 1;");
        Checks.fault(2, SIX + "@person");
        Checks.says("HANGS, 6 at most");
        String all = SEVEN + SIX + "hangs p a;hangs q b;hangs r c;hangs s d;hangs t e;hangs u f;";
        x = Checks.world(all);
        Checks.due("count(3)", x.count(3), 63);
        Checks.due("count(4)", x.count(4), 63);
        Checks.fault(2, all + "@hangs p g;");
        Checks.fault(2, all + "@hangs x y;");
        Checks.fault(2, all + "@hangs");
        Checks.fault(2, Checks.times(6, "hangs p a;") + "@hangs p a;");
        Checks.fault(4, "hangs @p a;" + Checks.times(5, "hangs p a;"));
        Checks.says("numbered each from 0 on as they stand");
        x = Checks.world("person z 5 1;hanger y 1 7;person b 6 2;hanger a 2 8;hangs b y;");
        Checks.due("person(0, 0)", x.person(0, 0), 5);
        Checks.due("person(1, 0)", x.person(1, 0), 6);
        Checks.due("hanger(0, 1)", x.hanger(0, 1), 7);
        Checks.due("hanger(1, 1)", x.hanger(1, 1), 8);
        Checks.due("hanger(0, 3)", x.hanger(0, 3), 1);
        Checks.says("all others lie on the FLOOR");
        Checks.due("person(0, 2)", x.person(0, 2), -2);
        Checks.due("none told", Checks.world(SEVEN + SIX).count(3), 0);
    }

    private static void tokens401() {
        Checks.says("2 ROOM: a 401st TOKEN");
        Checks.fault(0, FULL);
        Checks.fault(0, FULL + " \t\r\n");
        Checks.fault(0, "seed 1;costs=1" + Checks.times(196, "+1") + ";");
        Checks.fault(0, ODD);
        Checks.fault(2, ODD + "seed @1;");
        for (String word : new String[] {"hanger", "person", "hangs", "crooks", "bends", "slips", "costs", "moth", "seed"}) {
            Checks.fault(2, FULL + "@" + word);
            Checks.fault(2, FULL + "\n@" + word + " ???");
        }
        Checks.fault(2, "costs=1" + Checks.times(198, "+1") + "+@1;");
        Checks.fault(2, "seed 1;costs=1" + Checks.times(197, "+1") + "@;");
        Checks.fault(2, "seed 1;costs=1" + Checks.times(197, "+1") + "@*2;");
        Checks.fault(2, "costs=1" + Checks.times(198, "+1") + "+@(1);");
        Checks.fault(2, "costs=1" + Checks.times(198, "+1") + "+@nail;");
        Checks.fault(2, "costs=(1" + Checks.times(198, "+1") + "@);");
        Checks.fault(2, ODD + "hanger @a 0 1;");
        Checks.fault(2, ODD + "moth @101;");
        Checks.says("of one place the least");
        Checks.fault(1, FULL + "@1");
        Checks.fault(1, FULL + "@;");
        Checks.fault(1, FULL + "@x");
        Checks.fault(1, FULL + "@?");
        Checks.fault(1, FULL + "@if");
        Checks.fault(1, FULL + "@abcdefghi");
        Checks.fault(1, ODD + "seed @x;");
        Checks.fault(1, ODD + "hanger @hanger");
        Checks.fault(1, "costs=1" + Checks.times(198, "+1") + "+@;");
        Checks.fault(1, "costs=1" + Checks.times(198, "+1") + "+@)");
        Checks.says("the text's end is no TOKEN");
        Checks.fault(1, "costs=1" + Checks.times(198, "+1") + "+@");
        Checks.fault(1, "seed 1;costs=1" + Checks.times(197, "+1") + "@");
        Checks.fault(1, ODD + "seed@");
        Checks.says("a text of 400 TOKENS tells what it says");
        String head = "hanger h 0 1;person p 1 1;hangs p h;";
        // 14 tokens, then costs = if 185 < 1 + .. + 1 then 7 else 8;
        CoatHangers x = Checks.world(head + "costs=if 184<1" + Checks.times(184, "+1") + " then 7else 8;");
        Checks.due("184 < 185", x.tells(0, 3), 7);
        x = Checks.world(head + "costs=if 185<1" + Checks.times(184, "+1") + " then 7else 8;");
        Checks.due("185 < 185", x.tells(0, 3), 8);
    }

    private static void ifs() {
        Checks.says("a 5th if of a LAW (at it)");
        String four = Checks.times(4, "if 1 < 2 then 3 else ");
        for (String law : new String[] {"crooks", "bends", "slips", "costs"}) {
            Checks.fault(0, law + " = " + four + "5;");
            Checks.fault(2, law + " = " + four + "@if 1 < 2 then 3 else 5;");
            Checks.fault(2, law + " = " + four + "@if");
            Checks.fault(2, law + " = " + four + "@if;");
        }
        Checks.fault(0, "slips = " + four + "5;slips = " + four + "5;bends = " + four + "5;");
        Checks.fault(1, "slips = " + four + "5 @if");
        Checks.fault(1, "slips = " + four + "(@if");
    }

    private static void parens() {
        Checks.says("a 7th ( within one another (at it)");
        String open = Checks.times(6, "(");
        String close = Checks.times(6, ")");
        String six = open + "1" + close;
        Checks.fault(0, "bends = " + six + ";");
        Checks.fault(0, "bends = " + six + "+" + six + "*" + six + ";");
        Checks.fault(0, "bends = if " + six + "<" + six + "then" + six + "else" + six + ";");
        Checks.fault(0, "bends = (1)+((2)*(3+(4)))+" + six + ";");
        Checks.fault(2, "bends = " + open + "@(1)" + close + ";");
        Checks.fault(2, "bends = " + open + "@(");
        Checks.fault(2, "bends = " + six + "+" + open + "@(1)" + close + ";");
        Checks.fault(2, "bends = (((((1)+((@(2)))))));");
        Checks.fault(2, "bends = if " + six + "<" + open + "@(1)" + close + "then 1 else 2;");
        Checks.fault(2, "bends = 1 + (2 * (3 + (4 * (5 + (6 * (7 + @(8)))))));");
        Checks.fault(1, "bends = " + open + "1 @((");
        Checks.fault(1, "bends = " + open + "1" + close + "@);");
    }

    private static void firstByPlace() {
        Checks.says("FAULTS of a text, the first by its place");
        Checks.fault(1, "costs = @;" + SEVEN + "hanger h 0 1;");
        Checks.fault(2, SEVEN + "@hanger h 0 1; costs = ;");
        Checks.fault(2, "bends = ((((((@((((;");
        Checks.says("If there is none, likewise");
        Checks.fault(1, "moth 101;@x");
        Checks.fault(1, "hanger a 5 1@");
        Checks.fault(1, "hangs p a;hanger a 0 1;hanger a 0 1;moth 101@?");
        Checks.fault(2, "hangs p a;moth 101;" + SEVEN + "@hanger h 0 1;");
        Checks.fault(2, "moth 101;" + Checks.times(132, "seed 1;") + "seed @1;");
        Checks.fault(3, "hanger a 0 1;hanger @a 5 100;hangs p a;");
        Checks.fault(4, "hangs @p a;hanger a 5 1;hanger a 0 1;");
        Checks.fault(5, "hanger a @5 1;hanger a 0 1;hangs p a;");
        Checks.fault(5, "hanger a 0 @100;hanger a 0 1;hangs p a;");
    }

    private static void twice() {
        Checks.says("3 TWICE: a NAME told already (of HANGERS and PEOPLE together)");
        Checks.fault(3, "hanger a 0 1;hanger @a 0 1;");
        Checks.fault(3, "hanger a 0 1;person @a 0 1;");
        Checks.fault(3, "person a 0 1;hanger @a 0 1;");
        Checks.fault(3, "person a 0 1;person @a 0 1;");
        Checks.fault(3, SEVEN + "person p 0 1;person @g 0 1;");
        Checks.fault(3, SIX + "hanger a 0 1;hanger @u 0 1;");
        Checks.fault(3, "hanger a 0 1;hanger b 0 1;hanger @a 0 1;hanger b 0 1;");
        Checks.fault(0, "hanger a 0 1;hanger aa 0 1;person b 0 1;person ab 0 1;");
        Checks.says("(at the NAME) HANGS of a PERSON, of a HANGER, a second time");
        String both = SEVEN + SIX;
        Checks.fault(0, both + "hangs p a;hangs q b;");
        Checks.fault(3, both + "hangs p a;hangs @p b;");
        Checks.fault(3, both + "hangs p a;hangs q @a;");
        Checks.fault(3, both + "hangs p a;hangs @p a;");
        Checks.fault(3, both + "hangs u g;hangs p a;hangs @u b;");
        Checks.fault(3, both + "hangs u g;hangs p a;hangs q @g;");
        Checks.fault(3, both + "hangs p a;hangs @p x;");
    }

    private static void names4() {
        Checks.says("4 NAME: (at it) no such PERSON, HANGER told ahead");
        String both = SEVEN + SIX;
        Checks.fault(4, "hangs @p a;");
        Checks.fault(4, both + "hangs @x a;");
        Checks.fault(4, both + "hangs p @x;");
        Checks.fault(4, both + "hangs @a p;");
        Checks.fault(4, both + "hangs p @q;");
        Checks.fault(4, both + "hangs p a;hangs @x a;");
        Checks.fault(4, "person p 0 1;hangs p @a;hanger a 0 1;");
        Checks.fault(4, "hanger a 0 1;hangs @p a;person p 0 1;");
        Checks.fault(0, "hanger a 0 1;person p 0 1;hangs p a;");
        Checks.fault(0, both + "hangs u g;");
        Checks.says("(a NAME told more than once is that of the first one of the sort)");
        Checks.fault(3, "hanger a 0 1;person @a 0 1;hangs a a;");
        Checks.fault(3, "hanger a 0 1;hanger @a 0 1;person p 0 1;hangs p a;");
    }

    private static void wrongNumbers() {
        Checks.says("on which NAIL 0 .. 4");
        Checks.due("the last", Checks.world("hanger a 4 0;").hanger(0, 0), 4);
        Checks.due("the first", Checks.world("hanger a 0 0;").hanger(0, 0), 0);
        Checks.fault(5, "hanger a @5 0;");
        Checks.fault(5, "hanger a @9999 0;");
        Checks.says("HANGERS: WIDE 0 .. 99");
        Checks.due("the last", Checks.world("hanger a 0 99;").hanger(0, 1), 99);
        Checks.due("the first", Checks.world("hanger a 0 0;").hanger(0, 1), 0);
        Checks.fault(5, "hanger a 0 @100;");
        Checks.fault(5, "hanger a 0 @9999;");
        Checks.says("PEOPLE: WIDE 0 .. 99");
        Checks.due("the last", Checks.world("person a 99 0;").person(0, 0), 99);
        Checks.due("the first", Checks.world("person a 0 0;").person(0, 0), 0);
        Checks.fault(5, "person a @100 0;");
        Checks.says("RANK 0 .. 9");
        Checks.due("the last", Checks.world("person a 0 9;").person(0, 1), 9);
        Checks.due("the first", Checks.world("person a 0 0;").person(0, 1), 0);
        Checks.fault(5, "person a 0 @10;");
        Checks.says("MOTH: in how many of 100 nights 0 .. 100");
        Checks.fault(0, "moth 0;");
        Checks.fault(0, "moth 100;");
        Checks.fault(5, "moth @101;");
        Checks.fault(5, "moth @0101;");
        Checks.fault(5, "moth @101;moth 5;");
        Checks.says("SEED 0 .. 9999");
        Checks.fault(0, "seed 0;");
        Checks.fault(0, "seed 9999;");
        Checks.fault(1, "seed @10000;");
        Checks.says("INTS of LAWS are not bound");
        Checks.fault(0, "crooks = 9999;bends = 9999;slips = 9999;costs = 9999 * 9999;");
        Checks.says("5 WRONG (at the INT): the first of two");
        Checks.fault(5, "hanger a @5 100;");
        Checks.fault(5, "person a @100 10;");
    }

    /** The seed by its LOTS: in which of the first nights it is a moth's. */
    private static void sameMoths(CoatHangers x, int seed, int moth) {
        for (int night = 0; night < 20; night++) {
            Checks.due("moth of night " + night, x.count(12), Model.lot(100, seed, 16 * night + 8) < moth ? 1 : 0);
            x.nights(1);
        }
    }

    private static void lastOnes() {
        Checks.says("LAWS: CROOKS (apart), BENDS (0), SLIPS (0), COSTS (apart), if not told; the last one");
        String one = "hanger h 0 50;person p 40 1;hangs p h;";
        CoatHangers x = Checks.world(one);
        int[] none = {10, 0, 0, 10};
        for (int what = 0; what < 4; what++) Checks.due("tells(0, " + what + ")", x.tells(0, what), none[what]);
        String laws = "crooks=1;bends=2;slips=3;costs=4;";
        x = Checks.world(one + "crooks=if 1<2then 90else 91;bends=92;slips=93;costs=94+1;" + laws);
        for (int what = 0; what < 4; what++) Checks.due("tells(0, " + what + ")", x.tells(0, what), what + 1);
        Texts.read(x, one);
        for (int what = 0; what < 4; what++) Checks.due("not told any more: " + what, x.tells(0, what), none[what]);
        Checks.says("MOTH (0), SEED (0): the last one");
        sameMoths(Checks.world("moth 50;"), 0, 50);
        sameMoths(Checks.world("seed 77;moth 50;"), 77, 50);
        sameMoths(Checks.world("seed 5;moth 99;seed 9999;moth 30;"), 9999, 30);
        sameMoths(Checks.world("seed 5;moth 99;seed 0;moth 60;"), 0, 60);
        sameMoths(Checks.world("moth 0;"), 0, 0);
        sameMoths(Checks.world("moth 100;"), 0, 100);
        sameMoths(Checks.world("seed 5;"), 5, 0);
        x = Checks.world("moth 70;seed 8;");
        Texts.read(x, "seed 8;");
        sameMoths(x, 8, 0);
        Texts.read(x, "moth 70;");
        sameMoths(x, 0, 70);
    }

    /** An object in the middle of things, its tape empty. */
    private static CoatHangers busy() {
        CoatHangers x = Checks.world("hanger a 0 10;hanger b 0 20;hanger c 1 30;person p 12 1;person q 25 2;person r 30 3;"
            + "hangs p a;hangs q b;bends=2;costs=apart+beside;slips=5;moth 40;seed 77;");
        x.nights(3);
        x.hold(1);
        x.hang(2, 2);
        x.nights(2);
        x.tell(0, 1, true);
        x.tell(2, 2, false);
        return x;
    }

    private static void faultChangesNothing() {
        Checks.says("A text with a FAULT changes nothing but the tape");
        String[] faulty = {"?", "hanger", "seed 1;seed 10000;", SEVEN + "hanger h 0 1;", "costs=1" + Checks.times(199, "+1") + ";",
            "costs=((((((((1", "hanger a 0 1;person a 0 1;", "hangs p a;", "moth 101;", "seed 5;moth 7;crooks=5;bends=6;slips=7;costs=8;x"};
        int[] numbers = {1, 1, 1, 2, 2, 2, 3, 4, 5, 1};
        for (int i = 0; i < faulty.length; i++) {
            CoatHangers x = busy();
            Checks.due("read()", Texts.read(x, faulty[i]), numbers[i]);
            int place = x.place();
            Checks.due("bytes", x.count(8), 0);
            // the twin reads a text of one fault too, so that both have a place
            CoatHangers twin = busy();
            Texts.read(twin, Checks.times(place, " ") + "?");
            Checks.due("the twin's place", twin.place(), place);
            Checks.alike("behind " + faulty[i], x, twin);
        }
        Checks.says("a text with a FAULT leaves nothing for the next one");
        CoatHangers x = new CoatHangers();
        Texts.read(x, SEVEN + SIX + "hangs p a;moth 9;seed 9;crooks=1;bends=1;slips=1;costs=1;?");
        Checks.due("read()", Texts.read(x, "hanger a 0 50;person p 40 1;hangs p a;"), 0);
        Checks.alike("the same text", x, Checks.world("hanger a 0 50;person p 40 1;hangs p a;"));
    }

    private static void inPlaceOfTheOneAhead() {
        Checks.says("else it is in place of the one ahead: night 0 .. SLOTS hold nothing");
        String[] next = {"", "hanger a 0 50;person p 40 1;hangs p a;", SEVEN + SIX, "person p 1 1;", "hanger a 4 9;", "seed 7;moth 50;"};
        for (String text : next) {
            CoatHangers x = busy();
            Checks.due("read()", Texts.read(x, text), 0);
            Checks.due("night", x.count(2), 0);
            Checks.due("crooked", x.count(6), 0);
            Checks.due("bent", x.count(7), 0);
            Checks.due("undoable", x.count(9), 0);
            Checks.due("told", x.count(10), 0);
            Checks.due("slots", x.count(11), 0);
            Checks.alike("a new one's answers behind " + text, x, Checks.world(text));
        }
        CoatHangers x = busy();
        Checks.due("read() of an empty tape", x.read(), 0);
        Checks.alike("a new object", x, new CoatHangers());
    }
}

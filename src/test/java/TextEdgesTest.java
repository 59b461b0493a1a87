import java.util.ArrayList;
import java.util.List;

/** The edges that the document names of a PROVINCE's text, its TOKENS and FAULTS, and of promises 1 to 5. */
public final class TextEdgesTest {
    private static final int NONE = StoneCensus.NONE;
    private static final Check check = new Check();
    private static final String SIGNS = ";()<>=+-*/%";

    private TextEdgesTest() {
    }

    /** A text without a fault: so many houses. */
    private static StoneCensus fine(String text, int houses) {
        StoneCensus x = new StoneCensus();
        check.due("province of " + text, Texts.tell(x, text), houses);
        check.due("no fault of " + text, x.fault(0), 0);
        check.due("no place of " + text, x.fault(1), NONE);
        return x;
    }

    private static void faultOf(String text, int fault, int place) {
        StoneCensus x = new StoneCensus();
        check.due("province of " + text, Texts.tell(x, text), NONE);
        check.due("fault of " + text, x.fault(0), fault);
        check.due("place of " + text, x.fault(1), place);
        check.due("no house of " + text, x.about(0), 0);
    }

    /** "words (a .. z, 8 at most), N (1 to 4 digits), signs ; ( ) < > = + - * / %; blanks (32, 10)": all 256 bytes. */
    private static void everyByteAlone() {
        for (int b = 0; b < 256; b++) {
            String text = String.valueOf((char) b);
            boolean letter = b >= 'a' && b <= 'z';
            boolean digit = b >= '0' && b <= '9';
            if (b == 32 || b == 10) {
                fine(text, 0);
            } else {
                faultOf(text, letter || digit || SIGNS.indexOf(b) >= 0 ? 2 : 1, 0);
            }
        }
    }

    private static void everyByteBetween() {
        for (int b = 0; b < 256; b++) {
            char c = (char) b;
            String text = "spit 1" + c + "2;";
            if (b >= '0' && b <= '9' || "<>=+-*/%".indexOf(c) >= 0) {
                fine(text, 0);
            } else if (b >= 'a' && b <= 'z') {
                faultOf(text, 1, 5);
            } else if (b == 32 || b == 10 || b == ';') {
                faultOf(text, 2, 7);
            } else {
                faultOf(text, b == '(' || b == ')' ? 2 : 1, 6);
            }
        }
    }

    /** "words (a .. z, 8 at most)". */
    private static void lengthsOfWords() {
        fine("house a at 1 heads 1;", 1);
        fine("house zzzzzzzz at 1 heads 1;", 1);
        faultOf("house zzzzzzzzz at 1 heads 1;", 1, 6);
        faultOf("house zzzzzzzzzzzzzzzzz at 1 heads 1;", 1, 6);
        faultOf("house abcdefghat 1 heads 1;", 1, 6);
        faultOf("housexxxx", 1, 0);
        faultOf("housexxx", 2, 0);
        faultOf("house houses", 2, 12);
        fine("house abcdefgh at 1 heads 1;house abcdefgi at 1 heads 1;house bbcdefgh at 1 heads 1;house abcdefg at 1 heads 1;", 4);
        faultOf("house abcdefgh at 1 heads 1;house abcdefgh at 1 heads 1;", 3, 34);
        fine("house a at 1 heads 1;house aa at 1 heads 1;house aaa at 1 heads 1;house b at 1 heads 1;house ab at 1 heads 1;", 5);
    }

    /** "N (1 to 4 digits)". */
    private static void lengthsOfNumbers() {
        fine("spit 1;", 0);
        fine("spit 9999;", 0);
        faultOf("spit 10000;", 1, 5);
        faultOf("spit 00001;", 1, 5);
        faultOf("spit 12345678901234567890;", 1, 5);
        fine("house a at 0060 heads 0007 jam 0009 habit 0009;draw 0999;", 1);
        faultOf("house a at 0061 heads 1;", 4, 11);
        faultOf("house a at 00060 heads 1;", 1, 11);
        faultOf("draw 00999;", 1, 5);
    }

    /** "blanks (32, 10) part them or not; each is as long as can be; no letter directly behind an N". */
    private static void blanksAndWhatIsBehind() {
        fine("house\na\nat\n1\nheads\n1\n;", 1);
        fine("  house   a  at  1  heads  1  ;  ", 1);
        fine("house a at1 heads1 jam1 habit1;spit(1)+(2)*3;draw5;", 1);
        faultOf("housea at 1 heads 1;", 2, 0);
        faultOf("ho use a at 1 heads 1;", 2, 0);
        faultOf("house aat 1 heads 1;", 2, 10);
        faultOf("house a at 1heads 1;", 1, 11);
        faultOf("house a at 1 heads 1jam 1;", 1, 19);
        faultOf("spit 1and 2;", 1, 5);
        fine("spit 1 and 2;", 0);
        fine("spit(1)and(2)or not(3);", 0);
        faultOf("spit 1 2;", 2, 7);
        fine("spit 12;", 0);
        faultOf("spit 1\t+2;", 1, 6);
        faultOf("spit 1\r\n+2;", 1, 6);
        faultOf("spit 1+2;a", 2, 9);
        faultOf("spit 1A;", 1, 6);
        faultOf("spit Heads;", 1, 5);
        // An N and a letter behind it at the very end of the text, and a letter that has been cut off.
        faultOf("draw 1a", 1, 5);
        faultOf("draw 1", 2, 6);
        StoneCensus x = new StoneCensus();
        Texts.put(x, "draw 1;abcdefghijkl");
        x.end(7);
        check.due("letters behind the end are not there", x.province(), 0);
        Texts.put(x, "spit 12345");
        x.end(9);
        x.province();
        check.due("four digits, the fifth is cut off", x.fault(1), 9);
    }

    /** "at a place 0 .. 60 of the road; heads 0 .. 7, jam, habit 0 .. 9: 0 if not told"; "draw (0 .. 999; 0)". */
    private static void numbersThatCanBe() {
        for (int n = 0; n <= 60; n++) {
            check.due("place", fine("house a at " + n + " heads 0;", 1).house(0, 0), n);
        }
        for (int n = 0; n <= 7; n++) {
            check.due("heads", fine("house a at 0 heads " + n + ";", 1).house(0, 1), n);
        }
        for (int n = 0; n <= 9; n++) {
            check.due("jam", fine("house a at 0 heads 1 jam " + n + ";", 1).house(0, 4), n);
            check.due("habit", fine("house a at 0 heads 1 habit " + n + ";", 1).house(0, 5), n);
        }
        for (int n : new int[] {0, 1, 99, 100, 998, 999}) {
            check.due("draw", fine("draw " + n + ";", 0).about(2), n);
        }
        for (int n : new int[] {61, 62, 99, 100, 999, 9999}) {
            faultOf("house a at " + n + " heads 0;", 4, 11);
        }
        for (int n : new int[] {8, 9, 10, 77, 9999}) {
            faultOf("house a at 0 heads " + n + ";", 4, 19);
        }
        for (int n : new int[] {10, 11, 99, 9999}) {
            faultOf("house a at 0 heads 0 jam " + n + ";", 4, 25);
            faultOf("house a at 0 heads 0 habit " + n + ";", 4, 27);
            faultOf("house a at 0 heads 0 jam 9 habit " + n + ";", 4, 33);
        }
        for (int n : new int[] {1000, 1001, 9999}) {
            faultOf("draw " + n + ";", 4, 5);
        }
        StoneCensus x = fine("house a at 5 heads 5;", 1);
        check.due("jam, not told", x.house(0, 4), 0);
        check.due("habit, not told", x.house(0, 5), 0);
        check.due("draw, not told", x.about(2), 0);
        // In an e any N can be.
        fine("spit 9999;tax 9999;grow 9999;", 0);
    }

    private static String houses(int n) {
        StringBuilder text = new StringBuilder();
        for (int i = 0; i < n; i++) {
            text.append("house ").append((char) ('p' + i)).append(" at ").append(60 - 13 * i).append(" heads 1;");
        }
        return text.toString();
    }

    /** "At most 5 HOUSES (.. in whichever order ..), numbered as told; spit, tax, grow, draw once each". */
    private static void howMany() {
        for (int n = 0; n <= 5; n++) {
            StoneCensus x = fine(houses(n), n);
            for (int house = 0; house < n; house++) {
                check.due("numbered as told", x.house(house, 0), 60 - 13 * house);
            }
            check.due("no more of them", x.house(n, 0), NONE);
        }
        String five = houses(5);
        for (String rest : new String[] {"", " ", " x", " p", " at", "$", " $", " x at 61", " x at 1 heads 1;"}) {
            faultOf(five + "house" + rest, 2, five.length());
        }
        faultOf(five + "tax 1;\nhouse x at 1 heads 1;", 2, five.length() + 7);
        String[] laws = {"spit 1;", "tax 1;", "grow 1;", "draw 1;"};
        for (int i = 0; i < 4; i++) {
            for (int j = 0; j < 4; j++) {
                String between = i == j ? houses(2) : laws[j];
                String first = laws[i] + between;
                String word = laws[i].substring(0, laws[i].indexOf(' '));
                for (String rest : new String[] {"", " 1;", " $", " 99999", ";", " 1000;"}) {
                    faultOf(first + word + rest, 2, first.length());
                }
            }
        }
        fine("draw 1;grow 1;tax 1;spit 1;" + five, 5);
        fine(houses(2) + "grow 1;draw 1;spit 1;house a at 1 heads 1;tax 1;house b at 1 heads 1;", 4);
    }

    /** "house NAME at N heads N [jam N] [habit N] ;": each part where it stands, at most once. */
    private static void partsOfALine() {
        fine("house a at 1 heads 1;", 1);
        fine("house a at 1 heads 1 jam 1;", 1);
        fine("house a at 1 heads 1 habit 1;", 1);
        fine("house a at 1 heads 1 jam 1 habit 1;", 1);
        faultOf("house a at 1 heads 1 habit 1 jam 1;", 2, 29);
        faultOf("house a at 1 heads 1 habit 1 habit 1;", 2, 29);
        faultOf("house a at 1 heads 1 jam 1 jam 1;", 2, 27);
        faultOf("house a at 1 heads 1 jam 1 habit 1 jam 1;", 2, 35);
        faultOf("house a heads 1 at 1;", 2, 8);
        faultOf("house a at 1 at 1;", 2, 13);
        faultOf("house a at 1;", 2, 12);
        faultOf("house at 1 heads 1;", 2, 6);
        faultOf("house a b at 1 heads 1;", 2, 8);
        faultOf("house a at 1 heads 1;;", 2, 21);
        faultOf("house a at 1 heads 1 1;", 2, 21);
        faultOf("house a at (1) heads 1;", 2, 11);
        faultOf("house a at -1 heads 1;", 2, 11);
        faultOf("draw 1 2;", 2, 7);
        faultOf("draw 1+1;", 2, 6);
        faultOf("draw (1);", 2, 5);
        faultOf("spit 1;1", 2, 7);
    }

    /** "Words that stand for themselves here are no NAMES." */
    private static void names() {
        String reserved = "house at heads jam habit spit tax grow draw or and not hidden stones year";
        for (String word : reserved.split(" ")) {
            faultOf("house " + word + " at 1 heads 1;", 2, 6);
            faultOf("house a at 1 heads 1;house " + word + " at 1 heads 1;", 2, 27);
            fine("house x" + word + " at 1 heads 1;", 1);
            fine("house " + word.substring(1) + "q at 1 heads 1;", 1);
        }
        for (String word : "province line name both one sum term unit e n road bowl seed".split(" ")) {
            fine("house " + word + " at 1 heads 1;", 1);
        }
        for (String sign : SIGNS.split("")) {
            faultOf("house " + sign + " at 1 heads 1;", 2, 6);
        }
    }

    /** A word that is one letter off, one longer or one shorter stands for nothing here: it is a NAME, and no line's first word. */
    private static void wordsNearby() {
        String reserved = " house at heads jam habit spit tax grow draw or and not hidden stones year ";
        for (String word : reserved.trim().split(" ")) {
            for (int i = 0; i < word.length(); i++) {
                char other = word.charAt(i) == 'z' ? 'y' : 'z';
                String near = word.substring(0, i) + other + word.substring(i + 1);
                nearby(near);
                nearby(word.substring(0, i) + word.substring(i + 1));
                nearby(word.substring(0, i) + word.charAt(i) + word.substring(i));
            }
        }
    }

    private static void nearby(String word) {
        if (!word.isEmpty()) {
            fine("house " + word + " at 1 heads 1;", 1);
            faultOf(word + " 1;", 2, 0);
            faultOf("spit " + word + ";", 2, 5);
            faultOf("spit 1 " + word + " 1;", 2, 7);
            faultOf("house a " + word + " 1 heads 1;", 2, 8);
            faultOf("house a at 1 " + word + " 1;", 2, 13);
            faultOf("house a at 1 heads 1 " + word + " 1;", 2, 21);
        }
    }

    /** "spit e": which words are units there; a NAME or another word is none. */
    private static void unitsThatCanBe() {
        for (String word : "heads hidden jam habit stones year 0 9999 (1)".split(" ")) {
            for (String law : "spit tax grow".split(" ")) {
                fine(law + " " + word + ";", 0);
            }
        }
        for (String word : "house at spit tax grow draw or and a bowl ; ) < > = + - * / %".split(" ")) {
            faultOf("house a at 1 heads 1;spit " + word + ";", 2, 26);
            faultOf("spit 1+" + word + ";", 2, 7);
        }
        faultOf("spit 1+not 1;", 2, 7);
        faultOf("spit 1*not 1;", 2, 7);
        faultOf("spit 1=not 1;", 2, 7);
        fine("spit 1 and not 1;", 0);
        fine("spit 1 or not not 1;", 0);
        fine("spit 1+(not 1);", 0);
        faultOf("spit 1<2<3;", 2, 8);
        faultOf("spit 1=2=3;", 2, 8);
        faultOf("spit 1>2+3<4;", 2, 10);
        fine("spit 1<2 and 2<3 or 3=4;", 0);
    }

    /** "90 units in all, 30 in one e": "a unit too many: at its first TOKEN". */
    private static void unitsTooMany() {
        String thirty = "1" + "+1".repeat(29);
        String twentyNine = "1" + "+1".repeat(28);
        for (String law : "spit tax grow".split(" ")) {
            int at = law.length() + 1;
            check.due("units", fine(law + " " + thirty + ";", 0).about(8), 30);
            check.due("units", fine(law + " (" + twentyNine + ");", 0).about(8), 30);
            faultOf(law + " " + thirty + "+1;", 2, at + 60);
            faultOf(law + " " + thirty + "+heads;", 2, at + 60);
            faultOf(law + " " + thirty + " and 1;", 2, at + 64);
            faultOf(law + " " + thirty + " or not 1;", 2, at + 67);
            faultOf(law + " " + thirty + "+(1);", 2, at + 60);
            faultOf(law + " " + twentyNine + "+(1);", 2, at + 59);
            faultOf(law + " (" + thirty + ");", 2, at + 59);
            faultOf(law + " ((" + twentyNine + "));", 2, at + 2 + 56);
            // Behind the last unit that can be: what can't stand there has the same place, and what is no TOKEN comes first.
            faultOf(law + " " + thirty + "+;", 2, at + 60);
            faultOf(law + " " + thirty + "+?;", 1, at + 60);
            faultOf(law + " " + thirty + "+12345;", 1, at + 60);
        }
        String all = "spit " + thirty + ";tax " + thirty + ";grow " + thirty + ";";
        check.due("90 in all", fine(all, 0).about(8), 90);
        check.due("and houses", fine(all + houses(5) + "draw 1;", 5).about(8), 90);
        String other = thirty + "-1";
        faultOf("spit " + thirty + ";tax " + other + ";", 2, 5 + 59 + 1 + 4 + 60);
    }

    /** "a unit ( e ), or a one behind not, within 6 others at most": "what is within 7 others: at its first TOKEN, or the not". */
    private static void depths() {
        fine("spit " + "(".repeat(7) + "1" + ")".repeat(7) + ";", 0);
        faultOf("spit " + "(".repeat(8) + "1" + ")".repeat(8) + ";", 2, 12);
        faultOf("spit " + "(".repeat(9) + "1" + ")".repeat(9) + ";", 2, 12);
        fine("spit " + "not ".repeat(7) + "1;", 0);
        faultOf("spit " + "not ".repeat(8) + "1;", 2, 5 + 28);
        faultOf("spit " + "not ".repeat(9) + "1;", 2, 5 + 28);
        for (int nots = 0; nots <= 7; nots++) {
            int brackets = 7 - nots;
            String open = "not ".repeat(nots) + "(".repeat(brackets);
            String close = ")".repeat(brackets);
            fine("spit " + open + "1" + close + ";", 0);
            faultOf("spit " + open + "(1)" + close + ";", 2, 5 + open.length());
            if (brackets > 0) {
                faultOf("spit " + open + "not 1" + close + ";", 2, 5 + open.length());
                faultOf("spit " + open + "1+(1)" + close + ";", 2, 5 + open.length() + 2);
                faultOf("spit " + open + "1 or not 1" + close + ";", 2, 5 + open.length() + 5);
            }
        }
        // What has been left again does not count.
        fine("spit (((1)))+(((1)))+(((1)))+(((1)));", 0);
        fine("spit not not not 1 and not not not not 1 or not not not 1;", 0);
        fine("spit ((((((1)+(2))*((3))))));", 0);
        // The eighth not with nothing behind it, and the eighth bracket.
        faultOf("spit " + "not ".repeat(7), 2, 33);
        faultOf("spit " + "not ".repeat(7) + "not", 2, 33);
        faultOf("spit " + "(".repeat(7), 2, 12);
        faultOf("spit " + "(".repeat(8), 2, 12);
        // At one place: an eighth bracket that is a 31st unit, too.
        faultOf("spit 1" + "+1".repeat(22) + "+" + "(".repeat(8), 2, 5 + 46 + 7);
    }

    /** "the first by its place (bytes from 0; the end: the text's length)": a text that ends behind any TOKEN of a line. */
    private static void textsThatEnd() {
        String[] lines = {"house a at 1 heads 2 jam 3 habit 4 ;", "spit not heads + ( jam * 2 ) < 3 and 4 or 5 ;", "draw 7 ;"};
        for (String line : lines) {
            List<Integer> ends = new ArrayList<>();
            for (int i = 1; i < line.length(); i++) {
                if (line.charAt(i) == ' ') {
                    ends.add(i);
                }
            }
            for (int end : ends) {
                String text = line.substring(0, end);
                faultOf(text, 2, end);
                faultOf(text + " \n ", 2, end + 3);
                faultOf("\n" + text, 2, end + 1);
                faultOf("tax 1;" + text + " ", 2, end + 7);
            }
        }
        fine("", 0);
        fine("\n", 0);
        fine("tax 1;\n ", 0);
    }

    /** "FAULTS, the first by its place, at one place the least". */
    private static void whichFault() {
        faultOf("house a at 61 heads 8;$", 4, 11);
        faultOf("house a at 1 heads 8;house a", 4, 19);
        faultOf("house a at 1 heads 1;house a at 61", 3, 27);
        faultOf("house a at 1 heads 1;house a$", 3, 27);
        faultOf("house a at 1 heads 1;house a1", 3, 27);
        faultOf("house a at 1 heads 1;house aaaaaaaaa", 1, 27);
        faultOf("house a at 1 $ heads 99;", 1, 13);
        faultOf("house a at heads $", 2, 11);
        faultOf("draw 1000$", 4, 5);
        faultOf("draw 10000", 1, 5);
        faultOf("draw 1000x", 1, 5);
        faultOf("draw $;draw 1;", 1, 5);
        faultOf("$ at", 1, 0);
        faultOf("at $", 2, 0);
        faultOf("1x", 1, 0);
        faultOf("1 x", 2, 0);
        faultOf("house $", 1, 6);
        faultOf("house 61x", 1, 6);
    }

    /** "A PROVINCE is a text of at most 1,600 bytes": one of 1,600. */
    private static void longestText() {
        String line = "house a at 1 heads 1;";
        String text = " ".repeat(1600 - line.length()) + line;
        fine(text, 1);
        faultOf(" ".repeat(1600 - line.length() + 1) + line.substring(0, line.length() - 1), 2, 1600);
        faultOf(" ".repeat(1599) + "$", 1, 1599);
        faultOf(" ".repeat(1599) + "1", 2, 1599);
        faultOf(" ".repeat(1592) + "abcdefgh", 2, 1592);
        faultOf(" ".repeat(1591) + "abcdefghi", 1, 1591);
        faultOf(" ".repeat(1595) + "12345", 1, 1595);
        faultOf(" ".repeat(1595) + "1234a", 1, 1595);
        fine(" ".repeat(1600), 0);
        fine("\n".repeat(1600), 0);
        String most = "not ".repeat(7) + "1";
        String law = most + (" or " + most).repeat(29);
        check.due("the longest law", fine("spit " + law + ";", 0).about(8), 30);
    }

    private static int feedBlanks(StoneCensus x) {
        return x.feed(0x20202020, 0x20202020, 0x20202020, 0x20202020, 0x20202020);
    }

    /** Promise 2: "how many there are; NONE, and nothing comes, if there would be more than 1,600". */
    private static void feeding() {
        for (int n : new int[] {0, 1, 19, 20, 1579, 1580, 1581, 1582, 1599, 1600}) {
            StoneCensus x = new StoneCensus();
            for (int i = 0; i < 80; i++) {
                check.due("feed", feedBlanks(x), 20 * i + 20);
            }
            check.due("end", x.end(n), n);
            check.due("feed behind " + n, feedBlanks(x), n <= 1580 ? n + 20 : NONE);
            check.due("bytes behind " + n, x.about(7), n <= 1580 ? n + 20 : n);
        }
        StoneCensus x = new StoneCensus();
        x.feed(-1, 0, 0, 0, 0);
        x.province();
        check.due("the byte 255 is no TOKEN", x.fault(0), 1);
        x.feed(0x64726177, 0x20373b00, -1, Integer.MIN_VALUE, Integer.MAX_VALUE);
        x.end(7);
        check.due("bytes behind the end are gone", x.province(), 0);
        check.due("draw", x.about(2), 7);
        // "draw 7;" with its last three bytes cut off, then others fed behind them.
        x.feed(0x64726177, 0x20373b00, 0, 0, 0);
        check.due("end", x.end(5), 5);
        check.due("feed", x.feed(0x3432313b, 0x20202020, 0x20202020, 0x20202020, 0x20202020), 25);
        check.due("draw 421;", x.province(), 0);
        check.due("draw", x.about(2), 421);
    }

    /** Promise 3: "n; NONE, doing nothing, if it has not so many, or n is below 0". */
    private static void ending() {
        StoneCensus x = new StoneCensus();
        check.due("end 0 of 0", x.end(0), 0);
        check.due("end 1 of 0", x.end(1), NONE);
        feedBlanks(x);
        check.due("end 21 of 20", x.end(21), NONE);
        check.due("end -1 of 20", x.end(-1), NONE);
        check.due("20 still", x.about(7), 20);
        check.due("end 20 of 20", x.end(20), 20);
        check.due("end 19 of 20", x.end(19), 19);
        check.due("end 20 of 19", x.end(20), NONE);
        check.due("19 still", x.about(7), 19);
        check.due("end 0 of 19", x.end(0), 0);
        check.due("0 now", x.about(7), 0);
        for (int n : new int[] {1600, 1601, Integer.MAX_VALUE, Integer.MIN_VALUE}) {
            check.due("end " + n, x.end(n), NONE);
        }
        check.due("an empty text", x.province(), 0);
    }

    /** Promise 5: "Of the latest province() what 0: its FAULT (0), 1: its place (NONE). NONE for another what." */
    private static void latestFault() {
        StoneCensus x = new StoneCensus();
        check.due("before all", x.fault(0), 0);
        check.due("before all", x.fault(1), NONE);
        Texts.tell(x, " $");
        check.due("1", x.fault(0), 1);
        check.due("at 1", x.fault(1), 1);
        Texts.put(x, "tax");
        check.due("feeding changes nothing of it", x.fault(0) * 10 + x.fault(1), 11);
        x.province();
        check.due("2", x.fault(0), 2);
        check.due("at 3", x.fault(1), 3);
        check.due("an empty text", x.province(), 0);
        check.due("none", x.fault(0), 0);
        check.due("no place", x.fault(1), NONE);
        for (int what : new int[] {2, 3, -1, Integer.MIN_VALUE, Integer.MAX_VALUE}) {
            check.due("fault " + what, x.fault(what), NONE);
        }
        Texts.tell(x, "$");
        check.due("at 0", x.fault(1), 0);
        for (int what : new int[] {2, 3, -1, Integer.MIN_VALUE, Integer.MAX_VALUE}) {
            check.due("fault " + what, x.fault(what), NONE);
        }
    }

    /** Promise 4: "(empty then) .. all as told, BOWLS empty, no ACTS are kept, REPORTS are none, nothing lies there, .." */
    private static void toldOverAnother() {
        StoneCensus x = new StoneCensus();
        Texts.tell(x, "house a at 9 heads 5 jam 4 habit 3;house b at 8 heads 7;spit 50+(heads);tax 3;grow 2;draw 500;");
        for (int i = 0; i < 3; i++) {
            x.image(i);
            x.summer();
        }
        x.undo();
        x.hide(0, 3);
        x.undo();
        x.report(3, 1, 2);
        x.later(7);
        x.liars(0);
        check.due("an empty text", x.province(), 0);
        int[] want = {0, 0, 0, 0, 0, 0, 7, 0, 0, 0};
        for (int what = 0; what < want.length; what++) {
            check.due("about " + what, x.about(what), want[what]);
        }
        for (int box = 0; box < 3; box++) {
            check.due("box " + box, x.back(box), NONE);
        }
        check.due("undo", x.undo(), false);
        check.due("redo", x.redo(), false);
        Texts.tell(x, "house c at 1 heads 2;");
        int[] house = {1, 2, 0, 0, 0, 0, 2, 0, 0, 2};
        for (int what = 0; what < house.length; what++) {
            check.due("no law of the old ones: house 0 " + what, x.house(0, what), house[what]);
        }
        check.due("one house alone", x.house(1, 0), NONE);
        check.due("a summer without growth", x.summer(), 2);
        check.due("two heads", x.house(0, 1), 2);
    }

    /** Text after text on one object, each with all that can be told once, and laws as long as can be. */
    private static void textAfterText() {
        StoneCensus x = new StoneCensus();
        for (int i = 0; i < 12; i++) {
            String thirty = i + "+1".repeat(29);
            String text = houses(5) + "spit " + thirty + ";tax stones+" + i + "+2".repeat(28) + ";grow 0-" + i % 3 + ";draw " + 83 * i + ";";
            check.due("text " + i, Texts.tell(x, text), 5);
            check.due("units", x.about(8), 30 + 30 + 2);
            check.due("the seed", x.about(2), 83 * i);
            check.due("stones", x.house(4, 6), i + 29);
            check.due("tax", x.house(4, 9), i + 29 + i + 56);
            check.due("growth", x.will(4, 1), Math.max(0, 1 - i % 3));
            if (i % 4 == 3) {
                check.due("a text between that tells nothing", x.province(), 0);
                check.due("no units", x.about(8), 0);
            }
            if (i % 5 == 4) {
                check.due("a fault between", Texts.tell(x, "spit 1;tax 2;draw 3;house z at 1 heads 1;draw 3;"), NONE);
                check.due("its place", x.fault(1), 41);
                check.due("all stays", x.about(8), 62);
            }
        }
    }

    public static void main(String[] args) {
        everyByteAlone();
        everyByteBetween();
        lengthsOfWords();
        lengthsOfNumbers();
        blanksAndWhatIsBehind();
        numbersThatCanBe();
        howMany();
        partsOfALine();
        names();
        wordsNearby();
        unitsThatCanBe();
        unitsTooMany();
        depths();
        textsThatEnd();
        whichFault();
        longestText();
        feeding();
        ending();
        latestFault();
        toldOverAnother();
        textAfterText();
        check.finish();
    }
}

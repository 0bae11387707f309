/** Section 1, sentence by sentence: what a token is, where it can stand, the ranges, and which error counts. */
public final class GrammarTest {
    private static final String S = "spool grace 0 round 1;";
    private static final String C = S + "class a days 1;";
    private static final String U = C + "user u class a quota 5;";
    private static final String[] KEYWORDS = {"spool", "grace", "round", "class", "days", "forever", "keep", "then",
        "user", "quota", "group", "hold", "from", "to", "word"};
    private static final String EVERYTHING = "spool grace 3 round 4 ; class a days 5 keep 6 ; class b days forever keep 7"
        + " then a ; class c days 8 then b ; user u class a quota 9 ; user v class c quota 10 ; group g u , v ;"
        + " group h g ; hold i user u from 1 to 2 word tax ; hold j user v word to ; hold k user u from 3 to 3 ;"
        + " hold l user v ;";

    public static void main(String[] args) {
        keywordsAreNoNames();
        keywordsAreWords();
        otherWordsAreNames();
        eachByteBetweenTokens();
        maximalRuns();
        endAtEachToken();
        wrongTokenAtEachPlace();
        ranges();
        lettersOfNamesAndWords();
        smallestCode();
        firstError();
        statementsOfNoClassOrUser();
        statementOrder();
        namesOfTheirOwn();
        wholeBuffer();
        Check.end();
    }

    private static void keywordsAreNoNames() {
        for (String word : KEYWORDS) {
            TextTest.bad(S + "class " + word + " days 1;", 1, 28);
            TextTest.bad(C + "class b days 1 then " + word + ";", 1, 57);
            TextTest.bad(C + "user " + word + " class a quota 5;", 1, 42);
            TextTest.bad(C + "user u class " + word + " quota 5;", 1, 50);
            TextTest.bad(U + "group " + word + " u;", 1, 66);
            TextTest.bad(U + "group g " + word + ";", 1, 68);
            TextTest.bad(U + "group g u," + word + ";", 1, 70);
            TextTest.bad(U + "hold " + word + " user u;", 1, 65);
            TextTest.bad(U + "hold h user " + word + ";", 1, 72);
        }
    }

    private static void keywordsAreWords() {
        for (String word : KEYWORDS) {
            TextTest.good(U + "hold h user u word " + word + ";", 1);
            MailSpool x = Check.loaded(C + "user u class a quota 99;hold h user u word " + word + ";");
            Check.deliver(x, 0, 1, -1, "4" + word + "!");
            Check.deliver(x, 0, 1, -1, word + "s");
            Check.due("25 a message that contains " + word, x.holdsOn(0, 0), 1);
            Check.due("25 a message that does not contain " + word, x.holdsOn(1, 0), 0);
            for (int kind = 0; kind < 4; kind++) {
                Check.fill(x, word);
                Check.due("7 nothing has the name " + word, x.find(kind), -1);
            }
        }
    }

    /** Also those that the document uses in another sense, and those that begin like a keyword. */
    private static void otherWordsAreNames() {
        String[] names = {"name", "n", "letter", "number", "day", "t", "tos", "wor", "words", "hol", "holds", "froms",
            "users", "use", "lass", "clas", "classe", "keeps", "thenn", "quotas", "groups", "spo", "foreve", "zzzzzz"};
        for (String name : names) {
            TextTest.good(C + "class " + name + " days 1;user " + name + " class " + name + " quota 5;hold " + name
                    + " user " + name + ";", 1);
        }
    }

    /** Only a space and a newline separate; each other byte that is no letter and no digit is a symbol. */
    private static void eachByteBetweenTokens() {
        for (int value = 0; value < 256; value++) {
            char sign = (char) value;
            String text = "spool" + sign + "grace 0 round 1;";
            if (value == 32 || value == 10) {
                TextTest.good(text, 0);
            } else {
                TextTest.bad(text, 1, value >= 'a' && value <= 'z' ? 0 : 5);
            }
            if (value != 32 && value != 10 && (value < 'a' || value > 'z')) {
                TextTest.bad(S + sign, 1, 22);
                TextTest.bad(S + "class a" + sign, 1, 29);
            }
            if (value != 32 && value != 10 && value != ';' && (value < '0' || value > '9')) {
                TextTest.bad("spool grace 0 round 1" + sign, 1, 21);
            }
            if (value != ',' && value != ';' && value != 32 && value != 10 && (value < 'a' || value > 'z')) {
                TextTest.bad(U + "group g u" + sign + "u;", 1, 69);
            }
        }
    }

    private static void maximalRuns() {
        TextTest.good("spool grace1round2;class a days3keep4;class b days5then a;user u class a quota6;", 1);
        TextTest.good("spool\n\n  grace\n1 round 2 ;\n", 0);
        TextTest.bad("spoolgrace 1 round 2;", 1, 0);
        TextTest.bad("sp ool grace 1 round 2;", 1, 0);
        TextTest.bad("spool grace 1 0 round 2;", 1, 14);
        TextTest.bad("spool grace 1 round 1 2;", 1, 22);
        TextTest.bad("spool grace 1.0 round 1;", 1, 13);
        TextTest.bad("spool grace +1 round 1;", 1, 12);
        TextTest.bad(S + "class a1 days 1;", 1, 29);
        TextTest.bad(S + "class 1a days 1;", 1, 28);
        TextTest.bad(S + "classa days 1;", 1, 22);
        TextTest.bad(S + "class a_b days 1;", 1, 29);
        TextTest.bad(S + "class aB days 1;", 1, 29);
        TextTest.bad(S + "CLASS a days 1;", 1, 22);
        TextTest.good(S + "class abc days 1;class ab days 1;class a days 1;class abcd days 1;", 0);
    }

    private static void endAtEachToken() {
        String[] tokens = EVERYTHING.split(" ");
        StringBuilder text = new StringBuilder();
        int users = 0;
        for (int i = 0; i <= tokens.length; i++) {
            boolean whole = i > 0 && tokens[i - 1].equals(";");
            if (whole) {
                TextTest.good(text.toString(), users);
                TextTest.good(text + " \n ", users);
            } else {
                TextTest.bad(text.toString(), 1, text.length());
                TextTest.bad(text + "  \n", 1, text.length() + 3);
            }
            if (i < tokens.length) {
                text.append(i == 0 ? "" : " ").append(tokens[i]);
                users += tokens[i].equals("quota") ? 1 : 0;
            }
        }
        Check.due("two users", users, 2);
    }

    private static void wrongTokenAtEachPlace() {
        String[] tokens = EVERYTHING.split(" ");
        int position = 0;
        for (int i = 0; i < tokens.length; i++) {
            String before = EVERYTHING.substring(0, position);
            String after = EVERYTHING.substring(position + tokens[i].length());
            for (String wrong : new String[] {"!", "|", "\u0000", "\u00e1", "A", "abcdefghijk", "abcdefghijklmnopqrstuvwxyzabcdef"}) {
                TextTest.bad(before + wrong + after, 1, position);
            }
            boolean isWord = i > 0 && tokens[i - 1].equals("word");
            if (!isWord) {
                TextTest.bad(before + "abcdefg" + after, 1, position);
            }
            boolean isNumber = Character.isDigit(tokens[i].charAt(0)) || tokens[i].equals("forever");
            TextTest.bad(before + "99999999999" + after, isNumber ? 2 : 1, position);
            if (isNumber) {
                TextTest.bad(before + "a" + after, 1, position);
            }
            // a symbol is not the number that stands for it, nor the other way round
            if (tokens[i].equals(";") || tokens[i].equals(",")) {
                TextTest.bad(before + (int) tokens[i].charAt(0) + after, 1, position);
            }
            if (tokens[i].matches("[1-9]")) {
                TextTest.bad(before + (char) Integer.parseInt(tokens[i]) + after, 1, position);
            }
            position += tokens[i].length() + 1;
        }
    }

    private static void range(String before, String after, int least, int most) {
        int position = before.length();
        int users = before.contains("user") ? 1 : 0;
        TextTest.good(before + least + after, users);
        TextTest.good(before + most + after, users);
        TextTest.good(before + Check.repeat("0", 40) + least + after, users);
        TextTest.good(before + Check.repeat("0", 40) + most + after, users);
        TextTest.bad(before + (most + 1) + after, 2, position);
        TextTest.bad(before + Check.repeat("0", 40) + (most + 1) + after, 2, position);
        TextTest.bad(before + most + "0" + after, 2, position);
        if (least > 0) {
            TextTest.bad(before + (least - 1) + after, 2, position);
            TextTest.bad(before + "000" + (least - 1) + after, 2, position);
        }
        // numbers that would be in the range again if an int or a long ran over
        String[] large = {"2147483648", "2147483649", "4294967296", "4294967297", "4294967301", "18446744073709551616",
            "18446744073709551617", "18446744073709551621", "9223372036854775808", "10000000000000000000000000000000"};
        for (String number : large) {
            TextTest.bad(before + number + after, 2, position);
        }
    }

    private static void ranges() {
        range("spool grace ", " round 1;", 0, 30);
        range("spool grace 0 round ", ";", 1, 30);
        range(S + "class a days ", ";", 1, 999);
        range(S + "class a days 1 keep ", ";", 1, 99);
        range(S + "class a days forever keep ", ";", 1, 99);
        range(C + "user u class a quota ", ";", 1, 99999);
        range(U + "hold h user u from ", " to 9999;", 0, 9999);
        range(U + "hold h user u from 0 to ", ";", 0, 9999);
        range(U + "hold h user u from 7 to ", ";", 7, 9999);
        range(U + "hold h user u from 9999 to ", " word tax;", 9999, 9999);
    }

    private static void lettersOfNamesAndWords() {
        String letters = "abcdefghijk";
        for (int length = 1; length <= 11; length++) {
            String word = letters.substring(0, length).replace('a', 'z');
            if (length <= 6) {
                TextTest.good(S + "class " + word + " days 1;class b days 1 then " + word + ";", 0);
            } else {
                TextTest.bad(S + "class " + word + " days 1;", 1, 28);
            }
            if (length <= 10) {
                TextTest.good(U + "hold h user u word " + word + ";", 1);
            } else {
                TextTest.bad(U + "hold h user u word " + word + ";", 1, 79);
            }
        }
    }

    /** A token with several errors: 1 before 3 and 4, whichever it is. */
    private static void smallestCode() {
        for (String first : new String[] {"class", "user", "group", "hold"}) {
            TextTest.bad(first, 1, 0);
            TextTest.bad(first + " a", 1, 0);
        }
        TextTest.bad("spool user", 1, 6);
        TextTest.bad("spool grace 0 round 1 user", 1, 22);
        TextTest.bad("spool grace 0 round 1 hold", 1, 22);
        TextTest.bad("spool 31", 1, 6);
        TextTest.bad(S + "99999999999", 1, 22);
        TextTest.bad(C + "class b days 1 then abcdefg;", 1, 57);
        TextTest.bad(C + "class b days 1 then 0;", 1, 57);
        TextTest.bad(C + "user u class abcdefg quota 1;", 1, 50);
        TextTest.bad(C + "user abcdefg class a quota 1;", 1, 42);
        TextTest.bad(U + "group g abcdefg;", 1, 68);
        TextTest.bad(U + "group g u,abcdefg;", 1, 70);
        TextTest.bad(U + "hold h user abcdefg;", 1, 72);
        TextTest.bad(U + "class b then a;", 1, 68);
        TextTest.bad(C + "class a", 3, 43);
        TextTest.bad(U + "hold h user u from 99999 99999;", 2, 79);
    }

    /** Only the first token that has an error counts. */
    private static void firstError() {
        TextTest.bad("spool grace 31 round 31;", 2, 12);
        TextTest.bad("spool grace 31 !", 2, 12);
        TextTest.bad(S + "class a days 0 keep 0 then x;!", 2, 35);
        TextTest.bad(C + "class a days 0;", 3, 43);
        TextTest.bad(C + "user u class x quota 0;", 3, 50);
        TextTest.bad(U + "user u class x quota 0;", 3, 65);
        TextTest.bad(U + "group u x,y;", 3, 66);
        TextTest.bad(U + "group g x,!;", 3, 68);
        TextTest.bad(U + "hold h user x from 9 to 8 word abcdefghijk;", 3, 72);
        TextTest.bad(S + "hold h user x !", 4, 22);
        TextTest.bad(S + "user u class x quota 0;" + S, 4, 22);
    }

    private static void statementsOfNoClassOrUser() {
        TextTest.bad(S + "user", 4, 22);
        TextTest.bad(S + "group", 4, 22);
        TextTest.bad(S + "hold", 4, 22);
        TextTest.bad(C + "group", 4, 37);
        TextTest.bad(C + "hold", 4, 37);
        TextTest.bad(C + "user ", 1, 42);
        TextTest.bad(U + "group ", 1, 66);
        TextTest.bad(U + "hold ", 1, 65);
        TextTest.bad(S + "  user", 4, 24);
    }

    /** Each thing must be of an earlier statement; otherwise the statements come in any order. */
    private static void statementOrder() {
        TextTest.good(U + "hold h user u;class b days 1 then a;group g u;user v class b quota 5;hold i user v;group k v,g;", 2);
        TextTest.bad(C + "user u class b quota 5;class b days 1;", 3, 50);
        TextTest.bad(U + "group g v;user v class a quota 5;", 3, 68);
        TextTest.bad(U + "group g h;group h u;", 3, 68);
        TextTest.bad(U + "group g u,g;", 3, 70);
        TextTest.bad(U + "hold h user v;user v class a quota 5;", 3, 72);
        TextTest.bad(C + "class b days 1 then b;", 3, 57);
        TextTest.bad(C + "class b days 1 then c;class c days 1;", 3, 57);
        TextTest.bad(U + "class u days 1;hold u user a;", 3, 87);
    }

    /** Classes and holds have names of their own; users and groups have names in common. */
    private static void namesOfTheirOwn() {
        TextTest.good(C + "user a class a quota 5;hold a user a;", 1);
        TextTest.good(C + "user u class a quota 5;hold a user u;group a u;", 1);
        TextTest.good(U + "hold h user u;group h u;class h days 1;", 1);
        TextTest.good(U + "group g u;class g days 1;hold g user u;", 1);
        TextTest.bad(U + "class a days 1;", 3, 66);
        TextTest.bad(U + "hold h user u;hold h user u;", 3, 79);
        TextTest.bad(U + "user u class a quota 5;", 3, 65);
        TextTest.bad(U + "group u u;", 3, 66);
        TextTest.bad(U + "group g u;group g u;", 3, 76);
        TextTest.bad(U + "group g u;user g class a quota 5;", 3, 75);
    }

    private static void wholeBuffer() {
        String room = Check.repeat(" ", 1200 - U.length());
        TextTest.good(room + U, 1);
        TextTest.good(U + room, 1);
        TextTest.good(U.substring(0, U.length() - 1) + room + ";", 1);
        TextTest.bad(U.substring(0, U.length() - 1) + room + " ", 1, 1200);
        TextTest.bad(U + room.substring(1) + "x", 1, 1199);
        TextTest.bad(Check.repeat("\n", 1200), 1, 1200);
        TextTest.bad(Check.repeat("a", 1200), 1, 0);
        TextTest.bad("spool grace " + Check.repeat("9", 1188), 2, 12);
        TextTest.bad("spool grace " + Check.repeat("0", 1188), 1, 1200);
        TextTest.bad(U + "hold h user u word " + Check.repeat("b", 1200 - U.length() - 19), 1, 79);
    }
}

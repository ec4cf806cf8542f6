/** The boundary cases of the text of AN ACT, sentence by sentence: what is taken, and the first wrong byte. */
public final class TextEdgesTest {
    public static void main(String[] args) {
        numbers();
        digits();
        lines();
        deep();
        notDeep();
        noLine();
        longest();
        blanks();
        signsBesideThoseThatAre();
        wordsAsLongAsTheyGoOn();
        everyCut();
        everyWordInEveryPlace();
        facts();
        whatBindsFirst();
        factsOfAShip();
        sumsAndLasts();
        faultOfTheLatest();
        Due.finish("TextEdgesTest");
    }

    private static void right(String text) {
        Due.due("fault of '" + text + "'", Due.faultOf(text), -1);
    }

    private static void wrong(String text, int at) {
        Due.due("fault of '" + text + "'", Due.faultOf(text), at);
    }

    /** "back and pass 0 to 100, clear 0 to 50", others 1 to 6 digits. */
    private static void numbers() {
        String[] kinds = {"ton", "ship", "vote", "borrow", "back", "pass", "clear"};
        int[] most = {999999, 999999, 999999, 999999, 100, 100, 50};
        for (int i = 0; i < kinds.length; i++) {
            String kind = kinds[i] + " ";
            right(kind + "0");
            right(kind + "000000");
            right(kind + most[i]);
            right(kind + (most[i] - 1));
            wrong(kind + (most[i] + 1), kind.length());
            wrong(kind + "0000000", kind.length());
            wrong(kind + "-1", kind.length());
            wrong(kind, kind.length());
            wrong(kind + "5 5", kind.length() + 2);
            wrong("ton 1; " + kind + (most[i] + 1) + ";ton 1", kind.length() + 7);
        }
        right("back 000100");
        wrong("back 000101", 5);
        wrong("pass 999999", 5);
        right("clear 000050");
        wrong("clear 100", 6);
    }

    /** "NUMBER: 1 to 6 digits", behind a FACT, too. */
    private static void digits() {
        for (String fact : new String[] {"tons", "long", "stay", "paid", "last"}) {
            for (String sign : new String[] {"<", ">"}) {
                String begin = "ship 1 if " + fact + " " + sign + " ";
                right(begin + "0");
                right(begin + "999999");
                right(begin + "000000");
                wrong(begin + "1000000", begin.length());
                wrong(begin + "0000000", begin.length());
                wrong(begin + "2147483648", begin.length());
                wrong(begin + "99999999999999999999", begin.length());
                wrong(begin, begin.length());
                wrong(begin + "coal", begin.length());
            }
        }
    }

    /** "LINE { ; LINE }, at most 20 .. of a 21st LINE its first word". */
    private static void lines() {
        String twenty = "ton 1" + Due.times(";ton 1", 19);
        for (int n = 1; n <= 20; n++) {
            SiltHarbour x = new SiltHarbour();
            Due.due(n + " LINES", Due.act(x, 0, twenty.substring(0, 6 * n - 1)), n);
            Due.due(n + " LINES of TODAY", x.count(19), n);
        }
        wrong(twenty + ";ton 1", 120);
        wrong(twenty + ";  ton 1", 122);
        wrong(twenty + ";wrong", 120);
        wrong(twenty + ";5", 120);
        wrong(twenty + ";;", 120);
        wrong(twenty + ";", 120);
        wrong(twenty + "; ", 121);
        wrong(twenty + " ton", 120);
        right(twenty + "  ");
        wrong(twenty + ";ton 1;ton 1", 120);
        wrong("ton 9999999" + twenty.substring(5) + ";ton 1", 4);
        wrong(";" + twenty, 0);
        wrong("ton 1;;ton 1", 6);
        wrong("ton 1 ;", 7);
    }

    /** "( and not within one another at most 6 deep", however they are mixed. */
    private static void deep() {
        for (int mix = 0; mix < 64; mix++) {
            StringBuilder open = new StringBuilder("ship 1 if ");
            int closes = 0;
            for (int i = 0; i < 6; i++) {
                boolean not = (mix >> i & 1) == 1;
                open.append(not ? "not " : "(");
                closes += not ? 0 : 1;
            }
            String end = Due.times(")", closes);
            right(open + "coal" + end);
            wrong(open + "(coal)" + end, open.length());
            wrong(open + "not coal" + end, open.length());
            // a not ends with its ATOM, a ( goes on up to its )
            boolean lastIsNot = (mix >> 5 & 1) == 1;
            wrongOrRight(open + "coal or not coal" + end, lastIsNot ? -1 : open.length() + 8);
            wrongOrRight(open + "coal and (coal)" + end, lastIsNot ? -1 : open.length() + 9);
            if (closes > 0) {
                wrong(open + "coal" + end.substring(1), open.length() + 3 + closes);
            }
            wrong(open + "coal" + end + ")", open.length() + 4 + closes);
        }
    }

    /** Behind a ) it is less deep again. */
    private static void notDeep() {
        String six = "((((((coal))))))";
        right("ship 1 if " + six + " and " + six + " or not (not(not coal) or coal)" + " or " + six);
        right("ship 1 if " + six + ";ship 1 if " + six);
        right("ship 1 if not coal and not coal and not coal and not coal and not coal and not coal and not coal");
        right("ship 1 if (coal) or (coal) or (coal) or (coal) or (coal) or (coal) or (coal) or (coal)");
        right("ship 1 if (((((coal) and (coal) or not coal)))) and not not not not not not coal");
        wrong("ship 1 if " + six + " or (((((((coal)))))))", 36);
        wrong("ship 1 if (((((coal) or (not (coal))))))", 29);
        right("ship 1 if ((((coal) or (not (coal)))))");
        wrong("ship 1 if not not not not not not not coal", 34);
    }

    /** "A text that is empty, or blanks alone, has no LINE." */
    private static void noLine() {
        for (int n : new int[] {0, 1, 2, 19, 20, 21, 399, 400}) {
            SiltHarbour x = new SiltHarbour();
            Due.due(n + " blanks", Due.act(x, 0, Due.times(" ", n)), 0);
            Due.due("an ACT all the same", x.count(18), 1);
            Due.due("no LINES", x.count(19), 0);
            Due.due("no fault", x.fault(), -1);
        }
    }

    /** A text of all 400 bytes. */
    private static void longest() {
        String begin = "ship 1 if coal";
        String text = begin + Due.times(" or coal", 48);
        Due.due("its length", text.length(), 398);
        right(text);
        right(text + "  ");
        right("  " + text);
        wrong(text + ";", 399);
        wrong(text + " o", 399);
        wrong("!" + text + " ", 0);
        String nots = "ton 1 if not coal" + Due.times(" and not coal", 29);
        Due.due("its length", nots.length(), 394);
        right(nots + "      ");
        wrong(nots + " and  ", 400);
        String many = "ton 1" + Due.times(";ton 1 if stay>0 or mail", 16) + ";ship 9999";
        Due.due("its length", many.length(), 399);
        right(many + "9");
        wrong(many + ";", 400);
    }

    /** "between all there may be blanks (32), also ahead and behind". */
    private static void blanks() {
        right("ton1if(tons<5)and not coal or long>3;ship2;back3if mail;vote4;turn good down;clear5;pass6;borrow7");
        right("  ton  1  if  (  tons  <  5  )  and  not  coal  ;  turn  good  down  ;  clear  5  ");
        for (char sign : new char[] {9, 10, 13, 0, 160, 31, 33}) {
            wrong(sign + "ton 5", 0);
            wrong("ton" + sign + "5", 3);
            wrong("ton 5" + sign, 5);
            wrong("ton 5 if" + sign + "coal", 8);
            wrong("ton 5 if tons" + sign + "< 5", 13);
        }
        wrong("t on 5", 0);
        wrong("ton 5 if tons < 5 5", 18);
        wrong("ton 1 2", 6);
    }

    /** Only a to z, 0 to 9, ; ( ) < > and blanks stand in a text. */
    private static void signsBesideThoseThatAre() {
        for (int sign = 0; sign < 256; sign++) {
            boolean one = sign == ' ' || sign == ';' || sign == '(' || sign == ')' || sign == '<' || sign == '>';
            boolean letter = sign >= 'a' && sign <= 'z';
            boolean digit = sign >= '0' && sign <= '9';
            if (!one && !letter && !digit) {
                wrong("ton 5 " + (char) sign, 6);
                wrong((char) sign + "ton 5", 0);
                wrong("ton 5 if coal" + (char) sign + "or mail", 13);
            }
            if (letter) {
                wrong("ton 5 if coal" + (char) sign, 9);
                wrong("ton" + (char) sign + " 5", 0);
            }
            if (digit) {
                right("ton 5" + (char) sign);
                wrong("ton 5 if coal" + (char) sign, 13);
            }
        }
    }

    /** "Words are as long as a to z go on". */
    private static void wordsAsLongAsTheyGoOn() {
        wrong("tonif 5", 0);
        wrong("ton 5ifcoal", 5);
        wrong("ton 5 if coalor grain", 9);
        wrong("ton 5 if coal orgrain", 14);
        wrong("ton 5 if notcoal", 9);
        right("ton 5 if not(coal)");
        wrong("turn comedown", 5);
        wrong("turn come downdown", 10);
        right("ton 5 if tons<5and coal");
        right("ton 5 if tons<5or coal");
        wrong("ton 5 if tons<5andcoal", 15);
        wrong("shi p 5", 0);
        wrong("borro 5", 0);
        wrong("borrows 5", 0);
        wrong("foreign", 0);
        wrong("ton 5 if foreig", 9);
        wrong("ton 5 if foreignforeign", 9);
        wrong("ton 5 if abcdefghijklmnopqrstuvwxyz", 9);
    }

    /** A thing of a text, and whether the text may end behind it. */
    private record Thing(String word, boolean mayEnd) {
    }

    private static Thing ends(String word) {
        return new Thing(word, true);
    }

    private static Thing more(String word) {
        return new Thing(word, false);
    }

    /** "or the text's length, if more must come": a text cut behind each of its bytes. */
    private static void everyCut() {
        cut(more("ton"), ends("12"), more("if"), more("not"), more("("), more("coal"), more("or"), more("tons"), more("<"), more("34"), ends(")"),
            more("and"), ends("mail"), more("or"), more("stay"), more(">"), ends("7"), more(";"), more("turn"), ends("come"), ends("down"),
            more(";"), more("clear"), ends("50"));
        cut(more("vote"), ends("1"), more("if"), more("not"), ends("foreign"), more(";"), more("borrow"), ends("5"), more(";"), more("pass"), ends("99"),
            more(";"), more("ship"), ends("3"), more("if"), more("("), more("("), more("ore"), more(")"), ends(")"));
        cut(more("back"), ends("77"), more("if"), more("paid"), more(">"), ends("123456"), more("and"), more("last"), more("<"), ends("000009"),
            more("or"), ends("grain"), more("and"), ends("timber"), more("or"), ends("cotton"), more(";"), more("turn"), ends("good"));
    }

    private static void cut(Thing... things) {
        StringBuilder text = new StringBuilder(" ");
        wrongOrRight(" ", -1);
        for (Thing t : things) {
            int begin = text.length();
            boolean number = Character.isDigit(t.word.charAt(0));
            for (int i = 1; i <= t.word.length(); i++) {
                text.append(t.word.charAt(i - 1));
                boolean whole = i == t.word.length() || number;
                wrongOrRight(text.toString(), whole ? (t.mayEnd ? -1 : text.length()) : begin);
            }
            text.append(' ');
            wrongOrRight(text.toString(), t.mayEnd ? -1 : text.length());
        }
    }

    private static void wrongOrRight(String text, int fault) {
        Due.due("fault of '" + text + "'", Due.faultOf(text), fault);
    }

    private static final String WORDS = " ton ship back vote turn clear pass borrow come tons long good if or and not coal grain timber cotton ore"
        + " mail foreign stay paid last down ; ( ) < > 5 ";

    /** Behind each begin just these things can stand; every other is the first wrong one. */
    private static void everyWordInEveryPlace() {
        String kinds = " ton ship back vote turn clear pass borrow ";
        String atoms = " coal grain timber cotton ore mail foreign tons long stay paid last not ( ";
        String[][] places = {
            {"", kinds}, {"ton 1;", kinds}, {"ton", " 5 "}, {"clear", " 5 "}, {"turn", " come tons long good "},
            {"ton 1", " if ; "}, {"ship 1", " if ; "}, {"back 1", " if ; "}, {"vote 1", " if ; "},
            {"clear 1", " ; "}, {"pass 1", " ; "}, {"borrow 1", " ; "}, {"turn come", " down ; "}, {"turn good down", " ; "},
            {"ton 1 if", atoms}, {"ton 1 if not", atoms}, {"ton 1 if (", atoms}, {"ton 1 if coal or", atoms}, {"ton 1 if coal and", atoms},
            {"ton 1 if coal", " or and ; "}, {"ton 1 if (coal", " or and ) "}, {"ton 1 if (coal)", " or and ; "},
            {"ton 1 if not coal", " or and ; "}, {"ton 1 if tons", " < > "}, {"ton 1 if last <", " 5 "}, {"ton 1 if paid > 5", " or and ; "},
            {"ton 1 if (long < 5", " or and ) "}};
        for (String[] place : places) {
            for (String word : WORDS.trim().split(" ")) {
                String text = place[0] + " " + word;
                int fault = Due.faultOf(text);
                if (place[1].contains(" " + word + " ")) {
                    Due.due("'" + text + "' may go on", fault == -1 || fault == text.length(), true);
                } else {
                    Due.due("fault of '" + text + "'", fault, place[0].length() + 1);
                }
            }
        }
    }

    /** Whether a condition holds of a ship of ore, TONS 10, LONG 20, FOREIGN, as it comes. */
    private static boolean holds(String condition) {
        SiltHarbour x = new SiltHarbour();
        x.payer();
        Due.act(x, 0, "ship 1 if " + condition);
        x.ship(0, 4, 10, 20, 1, 1, true, 0);
        return x.judge(0, 0) == 1;
    }

    /** "FACT < NUMBER | FACT > NUMBER": neither holds of what is alike. */
    private static void facts() {
        String[] names = {"tons", "long", "stay", "paid", "last"};
        int[] values = {10, 20, 0, 0, 0};
        for (int i = 0; i < names.length; i++) {
            for (int n : new int[] {0, 1, Math.max(0, values[i] - 1), values[i], values[i] + 1, 999999}) {
                Due.due(names[i] + " < " + n, holds(names[i] + " < " + n), values[i] < n);
                Due.due(names[i] + " > " + n, holds(names[i] + " > " + n), values[i] > n);
            }
        }
        for (String word : new String[] {"coal", "grain", "timber", "cotton", "ore", "mail", "foreign"}) {
            boolean so = word.equals("ore") || word.equals("foreign");
            Due.due(word, holds(word), so);
            Due.due("not " + word, holds("not " + word), !so);
        }
    }

    /** "C: ALL { or ALL }; ALL: ATOM { and ATOM }": every way for three words, each true or false. */
    private static void whatBindsFirst() {
        for (int bits = 0; bits < 8; bits++) {
            boolean a = (bits & 1) != 0;
            boolean b = (bits & 2) != 0;
            boolean c = (bits & 4) != 0;
            String p = a ? "ore" : "coal";
            String q = b ? "foreign" : "mail";
            String r = c ? "tons > 9" : "tons < 9";
            Object[][] all = {
                {p + " or " + q + " and " + r, a || b && c}, {p + " and " + q + " or " + r, a && b || c},
                {"(" + p + " or " + q + ") and " + r, (a || b) && c}, {p + " and (" + q + " or " + r + ")", a && (b || c)},
                {"not " + p + " or " + q + " and " + r, !a || b && c}, {"not " + p + " and " + q + " or " + r, !a && b || c},
                {"not (" + p + " or " + q + ") and " + r, !(a || b) && c}, {"not (" + p + " and " + q + ") or not " + r, !(a && b) || !c},
                {p + " or " + q + " or " + r, a || b || c}, {p + " and " + q + " and " + r, a && b && c},
                {"not not " + p + " and not not not " + q + " or (((" + r + ")))", a && !b || c},
                {p + " and not " + q + " and " + r, a && !b && c}, {p + " or not " + q + " or " + r, a || !b || c}};
            for (Object[] one : all) {
                Due.due((String) one[0], holds((String) one[0]), (Boolean) one[1]);
            }
        }
        Due.due("deep on the right", holds("coal or ore and (mail or foreign and (coal or ore and (mail or foreign and (coal or ore and (mail or not coal and foreign)))))"), true);
        Due.due("deep on the right, not so", holds("coal or ore and (mail or foreign and (coal or ore and (mail or foreign and (coal or ore and (mail or coal and foreign)))))"), false);
    }

    /** "tons, long, stay: HOURS from coming to now (GONE: to its leaving); paid, last of its PAYER are 0 for it". */
    private static void factsOfAShip() {
        SiltHarbour x = new SiltHarbour();
        x.payer();
        x.berth(0, 900, 3, 50000);
        Due.act(x, 0, "ship 1 if tons > 9;ship 2 if tons < 10;ship 4 if stay > 3;ship 8 if paid > 0;ship 16 if last > 0;ship 32 if stay > 5");
        x.hours(7);
        x.ship(0, 4, 10, 20, 1, 1, true, 0);
        int[] due = {1, 1, 1, 1, 5, 5, 5};
        for (int h = 0; h < due.length; h++) {
            Due.due("stay " + h, x.led(0, 6), due[h]);
            x.hours(1);
        }
        Due.due("left with stay 5", x.led(0, 5), 12);
        Due.due("TONS as it came, though none is left", x.led(0, 2), 0);
        Due.due("paid", x.pays(0, 0), 5);
        x.ship(0, 4, 9, 20, 1, 1, true, 0);
        Due.due("VOTES, for which paid counts", x.pays(0, 2), 0);
        Due.due("its PAYER's paid is 0 for it", x.led(1, 6), 2);
        Due.pass(x, 2400);
        x.ship(0, 4, 9, 20, 1, 1, true, 0);
        Due.due("VOTES, for which last counts", x.pays(0, 2), 0);
        Due.due("its PAYER's last is 0 for it", x.led(2, 6), 2);
        x.pays(0, 2);
        Due.due("judged so, too", x.judge(2, 0), 2);
        Due.due("last", x.pays(0, 1) > 0, true);
    }

    /** "the sum of all ton that hold .. and of all ship that hold"; the greatest back; the last turn, clear, pass, borrow. */
    private static void sumsAndLasts() {
        SiltHarbour x = new SiltHarbour();
        x.payer();
        Due.act(x, 0, "ton 1;ship 10;ton 2;ton 4 if coal;ship 20;ship 40 if coal;back 5;back 60;back 99 if coal;back 7;borrow 9;borrow 5");
        x.ship(0, 4, 10, 20, 1, 1, true, 0);
        Due.due("3 times 10 and 30", x.judge(0, 0), 60);
        Due.due("the greatest that holds", x.judge(0, 3), 60);
        Due.due("6 are above the last borrow", x.bond(6, 0, 0, 1), -1);
        Due.due("5 are not", x.bond(5, 0, 0, 1), 0);
    }

    /** "The first wrong byte of the latest text that was read; NONE without one, and ahead of any." */
    private static void faultOfTheLatest() {
        SiltHarbour x = new SiltHarbour();
        Due.due("ahead of any", x.fault(), -1);
        Due.text(x, "ton 5 if");
        Due.due("not read yet", x.fault(), -1);
        Due.thrown("wrong", IllegalArgumentException.class, () -> x.act(0));
        Due.due("its length", x.fault(), 8);
        Due.due("asked again", x.fault(), 8);
        Due.text(x, "ship");
        Due.due("the next is not read yet", x.fault(), 8);
        Due.thrown("wrong", IllegalArgumentException.class, () -> x.propose(0));
        Due.due("of propose", x.fault(), 4);
        Due.text(x, "ship 5 ship");
        Due.thrown("wrong", IllegalArgumentException.class, () -> x.another(0, true));
        Due.due("of another", x.fault(), 7);
        Due.text(x, "ship 5");
        x.another(0, true);
        Due.due("NONE of a right one", x.fault(), -1);
        Due.text(x, "!");
        Due.thrown("wrong", IllegalArgumentException.class, () -> x.act(1250));
        Due.due("the first byte", x.fault(), 0);
        x.act(0);
        Due.due("an empty text is right", x.fault(), -1);
    }
}

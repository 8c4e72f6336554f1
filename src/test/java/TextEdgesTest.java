/** The boundary cases of the section "Description": GENERAL, THE TEXT and its Errors. */
public final class TextEdgesTest extends Edge {
    private static final String TOP = "fuse 9999;";
    private static final String A = "outlet a 0 0 0 1 0;";
    private static final String B = "outlet b 0 0 0 1 0;";
    private static final String C = "outlet c 0 0 0 1 0;";

    public static void main(String[] args) {
        runAll(TextEdgesTest.class);
    }

    private static BlackoutStart right(String text) {
        BlackoutStart x = new BlackoutStart();
        Texts.put(x, text);
        Object answer = Check.answer(() -> x.load());
        same("load of " + text, true, answer instanceof Integer);
        same("errorCode of " + text, 0, x.errorCode());
        same("errorPosition of " + text, -1, x.errorPosition());
        return x;
    }

    /** In the text the sign ^ stands ahead of the token that is wrong. */
    private static void wrong(int code, String marked) {
        int position = marked.indexOf('^');
        String text = marked.substring(0, position) + marked.substring(position + 1);
        BlackoutStart x = of("fuse 5;outlet only 1 1 1 1 1;");
        Texts.put(x, text);
        same("load of " + marked, "throws IllegalArgumentException", Check.answer(() -> x.load()));
        same("errorCode of " + marked, code, x.errorCode());
        same("errorPosition of " + marked, position, x.errorPosition());
        same("outlets behind " + marked, 1, x.count(0));
    }

    /** The numbers from least to greatest may stand there, and no others. */
    private static void range(String before, int least, int greatest, String behind) {
        right(before + least + behind);
        right(before + greatest + behind);
        if (least > 0) {
            wrong(2, before + "^" + (least - 1) + behind);
            wrong(2, before + "^0" + behind);
        }
        if (greatest < 9999) {
            wrong(2, before + "^" + (greatest + 1) + behind);
            wrong(2, before + "^9999" + behind);
        }
        wrong(1, before + "^10000" + behind);
        wrong(1, before + "^" + behind.substring(behind.length() - 1));
        wrong(1, before + "^x" + behind);
    }

    private static String outlets(int many) {
        StringBuilder text = new StringBuilder(TOP);
        for (int k = 0; k < many; k++) {
            text.append("outlet ").append((char) ('a' + k)).append(" 0 0 0 1 0;");
        }
        return text.toString();
    }

    /** 12 outlets and so many needs, at most 22. */
    private static String needs(int many) {
        StringBuilder text = new StringBuilder(outlets(12));
        for (int k = 0; k < many; k++) {
            text.append("need ").append((char) ('a' + k % 11)).append(' ').append(k < 11 ? 'l' : 'k').append(';');
        }
        return text.toString();
    }

    private static String padded(String text, int length) {
        StringBuilder padded = new StringBuilder();
        while (padded.length() + text.length() < length) {
            padded.append(padded.length() % 2 == 0 ? ' ' : '\n');
        }
        return padded.append(text).toString();
    }

    // GENERAL

    private static void general_time_beginsAt0() {
        same("tick", 0, right(TOP + A).count(2));
    }

    private static void general_outlets_areNumberedByTheText() {
        BlackoutStart x = right(TOP + "outlet z 1 1 1 1 0;outlet a 2 2 2 1 0;outlet m 3 3 3 1 0;");
        same("STEADY", "1 2 3", ofAll(x, 0, " "));
    }

    private static void general_sets_bit0IsTheFirstAndBit11TheTwelfth() {
        BlackoutStart x = right(outlets(12) + "need a l;need l a;");
        same("a needs l", 2048, x.needs(0, false));
        same("l needs a", 1, x.needs(11, false));
        same("all wait", 4095, x.outletsWith(1, false));
    }

    // THE TEXT: bytes, tokens and blanks

    private static void text_buffer_900BytesAreRead() {
        same("FUSE", 77, right(padded("fuse 77;", 900)).count(9));
        wrong(1, padded("fuse 77;^x", 901));
        wrong(1, padded("fuse 77^", 901));
        wrong(5, padded("fuse 77;strict;^strict", 901));
    }

    private static void text_tokens_wordsAreAsLongAsPossible() {
        wrong(1, "^fusex 1;");
        wrong(1, TOP + "^outleta 0 0 0 1 0;");
        wrong(1, TOP + A + "^offa;");
        wrong(1, TOP + "^strictstrict;");
    }

    private static void text_tokens_wordsAreNotCut() {
        wrong(1, "^fu se 1;");
        wrong(1, "^fus 1;");
        wrong(1, TOP + "^stric;");
    }

    private static void text_tokens_digitsAreAsLongAsPossible() {
        wrong(1, "fuse ^12345;");
        wrong(1, TOP + "outlet a ^00001 0 0 1 0;");
        wrong(1, TOP + "outlet a 0 0 0 10^;");
    }

    private static void text_tokens_aBlankEndsDigits() {
        wrong(1, "fuse 1 ^2;");
        wrong(1, TOP + "loss 01 ^01;");
        right(TOP + "outlet a 1 1 1 1 1;");
    }

    private static void text_tokens_noBlankIsNeededBetweenUnlikeOnes() {
        BlackoutStart x = right("fuse31;outlet a1 2 2 3 4;loss01;retry7;dark9 2;off a;");
        same("FUSE", 31, x.count(9));
        same("outlet", "1 2 2 3 4", x.outlet(0, 0) + " " + x.outlet(0, 1) + " " + x.outlet(0, 2) + " " + x.outlet(0, 3)
                + " " + x.outlet(0, 4));
        same("RETRY", 7, x.count(10));
    }

    private static void text_blanks_standBeforeBetweenAndBehindTokens() {
        BlackoutStart x = right(" \n\n  fuse\n 31 \n;\noutlet \n  a\n1  2 2\n3 4\n ; \n\n");
        same("FUSE", 31, x.count(9));
        same("outlets", 1, x.count(0));
    }

    private static void text_blanks_areTheBytes10And32Alone() {
        for (int k = 0; k < 256; k++) {
            String text = "fuse 10" + (char) k + ";";
            if (k == 10 || k == 32 || k >= '0' && k <= '9') {
                right(text);
            } else {
                wrong(1, k == ';' ? "fuse 10;^;" : "fuse 10^" + (char) k + ";");
            }
        }
    }

    private static void text_bytes_thatBeginNoToken() {
        for (char sign : new char[] {0, 9, 13, '/', ':', '`', '{', 'A', 'Z', '@', '[', '-', '.', 128, 138, 160, 'a' + 128, 255}) {
            wrong(1, "^" + sign);
            wrong(1, TOP + "^" + sign);
            wrong(1, TOP + "outlet a^" + sign + "b 0 0 0 1 0;");
            wrong(1, "fuse 1^" + sign + "1;");
        }
    }

    private static void text_bytes_theOutermostLettersAndDigits() {
        BlackoutStart x = right("fuse 9009;outlet az 0 0 0 1 0;outlet za 9 9 9 9 9;need az za;");
        same("FUSE", 9009, x.count(9));
        same("outlets", 2, x.count(0));
    }

    // THE TEXT: numbers

    private static void text_fuse_from1To9999() {
        range("fuse ", 1, 9999, ";");
    }

    private static void text_steady_from0To999() {
        range(TOP + "outlet a ", 0, 999, " 1999 1999 1 0;");
    }

    private static void text_inrush_fromSteadyTo1999() {
        right(TOP + "outlet a 500 500 500 1 0;");
        wrong(2, TOP + "outlet a 500 ^499 500 1 0;");
        right(TOP + "outlet a 500 1999 500 1 0;");
        wrong(2, TOP + "outlet a 500 ^2000 500 1 0;");
        right(TOP + "outlet a 0 0 0 1 0;");
        wrong(1, TOP + "outlet a 0 ^;");
    }

    private static void text_peak_fromSteadyToInrush() {
        right(TOP + "outlet a 500 600 500 1 0;");
        wrong(2, TOP + "outlet a 500 600 ^499 1 0;");
        right(TOP + "outlet a 500 600 600 1 0;");
        wrong(2, TOP + "outlet a 500 600 ^601 1 0;");
        right(TOP + "outlet a 999 1999 1999 1 0;");
        wrong(1, TOP + "outlet a 0 0 ^;");
    }

    private static void text_ticks_from1To20() {
        range(TOP + "outlet a 0 0 0 ", 1, 20, " 0;");
    }

    private static void text_priority_from0To9() {
        range(TOP + "outlet a 0 0 0 1 ", 0, 9, ";");
    }

    private static void text_retry_from1To20() {
        range(TOP + "retry ", 1, 20, ";");
    }

    private static void text_retry_is3WithoutIt() {
        same("RETRY", 3, right(TOP + "patience 9;").count(10));
    }

    private static void text_patience_from2To20() {
        range(TOP + "patience ", 2, 20, ";");
    }

    private static void text_patience_is4WithoutIt() {
        same("PATIENCE", 4, right(TOP + "retry 9;").count(11));
    }

    private static void text_dark_tickFrom1To999() {
        range(TOP + "dark ", 1, 999, " 1;");
    }

    private static void text_dark_durationFrom1To50() {
        range(TOP + "dark 1 ", 1, 50, ";");
    }

    private static void text_number_has1To4Digits() {
        same("one", 7, right("fuse 7;").count(9));
        same("four", 7, right("fuse 0007;").count(9));
        wrong(1, "fuse ^00007;");
        wrong(2, "fuse ^0000;");
        wrong(1, "fuse ^00000;");
        wrong(1, "fuse ^99999999999999999999;");
        same("zeros in front", 20, right(TOP + "retry 0020;").count(10));
        wrong(1, TOP + "retry ^00020;");
        wrong(2, TOP + "retry ^0021;");
    }

    // THE TEXT: the script

    private static void text_script_has1To24Digits() {
        right(TOP + "loss 0;");
        right(TOP + "loss 1;");
        right(TOP + "loss 000000000000000000000000;");
        right(TOP + "loss 111111111111111111111111;");
        wrong(1, TOP + "loss ^0000000000000000000000000;");
        wrong(1, TOP + "loss ^1111111111111111111111111;");
        wrong(1, TOP + "loss ^;");
        wrong(1, TOP + "loss ^a;");
    }

    private static void text_script_hasTheDigits0And1Alone() {
        wrong(1, TOP + "loss ^2;");
        wrong(1, TOP + "loss ^9;");
        wrong(1, TOP + "loss ^201;");
        wrong(1, TOP + "loss ^012;");
        wrong(1, TOP + "loss ^010101010101010101010102;");
    }

    private static void text_script_withoutItNoMessageIsLost() {
        BlackoutStart x = right("fuse 9;outlet a 0 10 0 1 0;retry 1;");
        x.run(100);
        same("sent", 100, x.count(7));
        same("lost", 0, x.count(8));
    }

    // THE TEXT: names

    private static void text_name_has1To8Letters() {
        right(TOP + "outlet a 0 0 0 1 0;outlet abcdefgh 0 0 0 1 0;need a abcdefgh;need abcdefgh a;off abcdefgh;off a;");
        wrong(1, TOP + "outlet ^abcdefghi 0 0 0 1 0;");
        wrong(1, TOP + "outlet ^0 0 0 1 0;");
        wrong(1, TOP + "outlet ^; 0 0 0 1 0;");
    }

    private static void text_name_mayBeAWordOfTheGrammar() {
        String[] words = {"fuse", "outlet", "need", "loss", "retry", "patience", "strict", "off", "dark"};
        StringBuilder text = new StringBuilder(TOP);
        for (String word : words) {
            text.append("outlet ").append(word).append(" 0 0 0 1 0;");
        }
        text.append("need need outlet;need off need;loss 0;off off;off loss;off dark;strict;off strict;");
        BlackoutStart x = right(text.toString());
        same("outlets", 9, x.count(0));
        same("off", 8 + 64 + 128 + 256, x.outletsWith(0, false));
        Texts.put(x, "patience");
        same("find", 5, x.find());
    }

    private static void text_name_ofNoTwoOutlets() {
        wrong(3, TOP + A + "outlet ^a 0 0 0 1 0;");
        wrong(3, TOP + A + B + C + "outlet ^a 0 0 0 1 0;");
        wrong(3, TOP + A + B + C + "outlet ^c 0 0 0 1 0;");
        wrong(3, TOP + "outlet abcdefgh 0 0 0 1 0;outlet ^abcdefgh 0 0 0 1 0;");
    }

    private static void text_name_apartByOneLetter() {
        right(TOP + "outlet a 0 0 0 1 0;outlet aa 0 0 0 1 0;outlet ab 0 0 0 1 0;outlet ba 0 0 0 1 0;outlet b 0 0 0 1 0;");
        for (int place = 0; place < 8; place++) {
            for (char letter = 'a'; letter <= 'z'; letter++) {
                String other = "kkkkkkkk".substring(0, place) + letter + "kkkkkkkk".substring(place + 1);
                if (letter != 'k') {
                    right(TOP + "outlet kkkkkkkk 0 0 0 1 0;outlet " + other + " 0 0 0 1 0;");
                }
            }
        }
        right(TOP + "outlet kkkkkkkk 0 0 0 1 0;outlet kkkkkkk 0 0 0 1 0;");
    }

    // THE TEXT: how many, and in what order

    private static void text_outlets_0() {
        BlackoutStart x = right("fuse 1;");
        same("outlets", 0, x.count(0));
        wrong(4, "fuse 1;off ^a;");
        wrong(4, "fuse 1;need ^a a;");
    }

    private static void text_outlets_12AreTheMost() {
        same("outlets", 12, right(outlets(12)).count(0));
        wrong(5, outlets(12) + "^outlet m 0 0 0 1 0;");
        wrong(5, outlets(12) + "^outlet");
        wrong(5, outlets(12) + "^outlet a 0 0 0 1 0;");
        wrong(1, outlets(12) + "^outletm 0 0 0 1 0;");
    }

    private static void text_needs_16AreTheMost() {
        same("needs", 16, right(needs(16)).count(1));
        wrong(5, needs(16) + "^need b a;");
        wrong(5, needs(16) + "^need");
        wrong(5, needs(16) + "^need a l;");
    }

    private static void text_needs_11OfOneOutlet() {
        StringBuilder text = new StringBuilder(outlets(12));
        for (char name = 'b'; name <= 'l'; name++) {
            text.append("need a ").append(name).append(';');
        }
        same("needs", 4094, right(text.toString()).needs(0, false));
    }

    private static void text_darks_4AreTheMost() {
        String four = TOP + "dark 1 1;dark 1 1;dark 999 50;dark 2 2;";
        right(four);
        wrong(5, four + "^dark 3 1;");
        wrong(5, four + "strict;^dark");
        wrong(5, four + "^dark 0 0;");
    }

    private static void text_loss_standsOnce() {
        wrong(5, TOP + "loss 1;^loss 1;");
        wrong(5, TOP + "loss 1;strict;retry 1;patience 2;^loss");
    }

    private static void text_retry_standsOnce() {
        wrong(5, TOP + "retry 3;^retry 3;");
        wrong(5, TOP + "retry 3;strict;loss 1;patience 2;^retry");
    }

    private static void text_patience_standsOnce() {
        wrong(5, TOP + "patience 4;^patience 4;");
        wrong(5, TOP + "patience 4;strict;loss 1;retry 2;^patience");
    }

    private static void text_strict_standsOnce() {
        wrong(5, TOP + "strict;^strict;");
        wrong(5, TOP + "strict;patience 4;loss 1;retry 2;^strict");
    }

    private static void text_strict_isNotSaidWithoutIt() {
        same("strict", 0, right(TOP).count(12));
        same("strict", 1, right(TOP + "strict;").count(12));
    }

    private static void text_off_mayBeSaidAgain() {
        BlackoutStart x = right(TOP + A + B + "off a;off a;strict;off a;");
        same("a alone does not want", 1, x.outletsWith(0, false));
        same("b does", 2, x.outletsWith(1, false));
    }

    private static void text_off_ofAll() {
        same("none wants", 3, right(TOP + A + B + "off b;off a;").outletsWith(0, false));
    }

    private static void text_need_isOfAnotherOutlet() {
        wrong(3, TOP + A + B + "need a ^a;");
        wrong(3, TOP + A + B + "need b ^b;");
    }

    private static void text_need_isToldOnce() {
        wrong(3, TOP + A + B + C + "need a b;need a ^b;");
        wrong(3, TOP + A + B + C + "need a b;need c b;need a c;need a ^b;");
    }

    private static void text_need_mayBeToldBackwards() {
        BlackoutStart x = right(TOP + A + B + "need a b;need b a;");
        same("needs", 2, x.count(1));
    }

    private static void text_order_fuseComesFirst() {
        wrong(1, "^outlet a 0 0 0 1 0;");
        wrong(1, "^strict;");
        wrong(1, "^;");
        wrong(1, "^1;");
    }

    private static void text_order_fuseStandsOnce() {
        wrong(1, TOP + "^fuse 1;");
        wrong(1, TOP + A + "strict;^fuse 1;");
    }

    private static void text_order_noOutletBehindANeed() {
        wrong(1, TOP + A + B + "need a b;^outlet c 0 0 0 1 0;");
    }

    private static void text_order_noOutletBehindARule() {
        wrong(1, TOP + A + "strict;^outlet c 0 0 0 1 0;");
        wrong(1, TOP + A + "off a;^outlet c 0 0 0 1 0;");
    }

    private static void text_order_noNeedBehindARule() {
        wrong(1, TOP + A + B + "dark 1 1;^need a b;");
        wrong(1, TOP + A + B + "need a b;dark 1 1;^need b a;");
    }

    private static void text_order_rulesInAnyOrder() {
        BlackoutStart x = right(TOP + A + "dark 5 1;strict;off a;patience 7;dark 2 1;retry 8;loss 1;dark 9 9;");
        same("PATIENCE", 7, x.count(11));
        same("RETRY", 8, x.count(10));
    }

    private static void text_order_noEmptyStatement() {
        wrong(1, TOP + "^;");
        wrong(1, TOP + A + "^;");
        wrong(1, TOP + "strict;^;");
    }

    // Errors

    private static void errors_position_ofAnEmptyTextIs0() {
        wrong(1, "^");
    }

    private static void errors_position_ofBlanksAloneIsTheLength() {
        wrong(1, " ^");
        wrong(1, "\n \n^");
        wrong(1, padded("^", 901));
    }

    private static void errors_position_ofTheEndIsTheLength() {
        String[] tokens = (TOP.replace(";", " ;") + "outlet a 0 0 0 1 0 ;outlet b 0 0 0 1 0 ;need a b ;loss 01 ;retry 2 ;patience 3 ;"
                + "strict ;off a ;dark 1 2 ;").replace(";", "; ").split(" +");
        StringBuilder text = new StringBuilder();
        for (String token : tokens) {
            text.append(token);
            for (String behind : new String[] {"", " ", " \n  "}) {
                if (token.equals(";")) {
                    right(text + behind);
                } else {
                    wrong(1, text + behind + "^");
                }
            }
            text.append(' ');
        }
    }

    private static void errors_position_isTheFirstByteOfTheToken() {
        wrong(2, TOP + "  outlet\n\na   ^1000   1999 1999 1 0;");
        wrong(1, TOP + "\n \n^abc");
        wrong(5, TOP + "strict;\n ^strict;");
        wrong(4, TOP + A + "off \n ^abcdefgh;");
        wrong(3, TOP + A + "outlet   ^a 0 0 0 1 0;");
    }

    private static void errors_first_isTheOneFromTheLeft() {
        wrong(2, "fuse ^0;;");
        wrong(2, "fuse ^0;strict;strict;" + (char) 0);
        wrong(3, TOP + A + "outlet ^a 1000 0 0 1 0;");
        wrong(2, TOP + A + "outlet b ^1000 99999 0 1 0;");
        wrong(2, TOP + "outlet a 5 ^4 3 0 10");
        wrong(2, TOP + "outlet a 5 5 ^4 0 10");
        wrong(2, TOP + "outlet a 5 5 5 ^0 10");
        wrong(2, TOP + "outlet a 5 5 5 1 ^10");
        wrong(4, TOP + A + B + "need ^x x;");
        wrong(4, TOP + A + B + "need ^x abcdefghi;");
        wrong(4, TOP + A + B + "need a ^x x;");
        wrong(3, TOP + A + B + "need a ^a a;");
        wrong(2, TOP + "dark ^0 0;");
        wrong(2, TOP + "dark 1 ^0 0;");
        wrong(4, TOP + "off ^a a;");
        wrong(1, TOP + "loss ^2 2;");
    }

    private static void errors_code1_anEndBehindEachKindOfStatement() {
        wrong(1, TOP + A + "off a^");
        wrong(1, TOP + A + B + "need a b^");
        wrong(1, TOP + "dark 1 1^");
        wrong(1, TOP + "loss 1^");
        wrong(1, TOP + "strict^");
        wrong(1, TOP + "outlet a 0 0 0 1 0^");
    }

    private static void errors_code1_oneTokenTooMany() {
        wrong(1, "fuse 1 ^1;");
        wrong(1, TOP + "outlet a 0 0 0 1 0 ^0;");
        wrong(1, TOP + A + B + "need a b ^b;");
        wrong(1, TOP + "loss 1 ^1;");
        wrong(1, TOP + "retry 1 ^1;");
        wrong(1, TOP + "patience 2 ^1;");
        wrong(1, TOP + "strict ^1;");
        wrong(1, TOP + A + "off a ^a;");
        wrong(1, TOP + "dark 1 1 ^1;");
    }

    private static void errors_code1_oneTokenTooFew() {
        wrong(1, "fuse ^;");
        wrong(1, TOP + "outlet ^;");
        wrong(1, TOP + "outlet a 0 0 0 1 ^;");
        wrong(1, TOP + A + B + "need ^;");
        wrong(1, TOP + A + B + "need a ^;");
        wrong(1, TOP + "loss ^;");
        wrong(1, TOP + "retry ^;");
        wrong(1, TOP + "patience ^;");
        wrong(1, TOP + A + "off ^;");
        wrong(1, TOP + "dark ^;");
        wrong(1, TOP + "dark 1 ^;");
    }

    private static void errors_code1_aWordForANumberAndANumberForAWord() {
        wrong(1, "fuse ^a;");
        wrong(1, TOP + "outlet a ^b 0 0 1 0;");
        wrong(1, TOP + "outlet a 0 0 0 1 ^b;");
        wrong(1, TOP + A + B + "need ^1 b;");
        wrong(1, TOP + A + B + "need a ^1;");
        wrong(1, TOP + A + "off ^1;");
        wrong(1, TOP + "dark ^a 1;");
        wrong(1, TOP + "retry ^a;");
        wrong(1, TOP + "patience ^a;");
        wrong(1, TOP + "^1;");
    }

    private static void errors_code1_aWordThatIsApartByOneLetter() {
        String[] texts = {"fuse 1;", TOP + "outlet a 0 0 0 1 0;", TOP + A + B + "need a b;", TOP + "loss 1;", TOP + "retry 1;",
            TOP + "patience 2;", TOP + "strict;", TOP + A + "off a;", TOP + "dark 1 1;"};
        String[] words = {"fuse", "outlet", "need", "loss", "retry", "patience", "strict", "off", "dark"};
        for (int k = 0; k < words.length; k++) {
            int start = texts[k].lastIndexOf(words[k]);
            right(texts[k]);
            for (int place = 0; place < words[k].length(); place++) {
                String other = words[k].substring(0, place) + "x" + words[k].substring(place + 1);
                wrong(1, texts[k].substring(0, start) + "^" + other + texts[k].substring(start + other.length()));
            }
            wrong(1, texts[k].substring(0, start) + "^" + texts[k].substring(start + 1));
            wrong(1, texts[k].substring(0, start) + "^" + words[k] + "x" + texts[k].substring(start + words[k].length()));
        }
    }

    private static void errors_code1_aNumberOf5DigitsThatIsInRangeOrNot() {
        wrong(1, TOP + "retry ^00001;");
        wrong(1, TOP + "retry ^00021;");
        wrong(1, TOP + "dark ^00000 1;");
        wrong(1, TOP + "outlet a 5 ^00001 5 1 1;");
    }

    private static void errors_code1_aNameOf9LettersThatNoOutletHas() {
        wrong(1, TOP + A + B + "need ^abcdefghi b;");
        wrong(1, TOP + A + B + "need a ^abcdefghi;");
        wrong(1, TOP + A + "off ^abcdefghi;");
        wrong(4, TOP + A + "off ^abcdefgh;");
    }

    private static void errors_code1_beforeCode5() {
        wrong(1, outlets(12) + "need a b;^outlet");
        wrong(1, outlets(12) + "strict;^outlet m 0 0 0 1 0;");
        wrong(1, needs(16) + "strict;^need b a;");
    }

    private static void errors_code3_theNameComesBeforeItsNumbers() {
        wrong(3, TOP + A + "outlet ^a;");
        wrong(3, TOP + A + "outlet ^a");
    }

    private static void errors_code3_ofANeedIsTheSecondName() {
        wrong(3, TOP + A + B + "need a b;need   a   ^b;");
        wrong(3, TOP + A + B + "need   b   ^b");
    }

    private static void errors_code4_ofANeedMayBeEitherName() {
        wrong(4, TOP + A + B + "need ^c a;");
        wrong(4, TOP + A + B + "need a ^c;");
        wrong(4, TOP + A + B + "need ^need a;");
    }

    private static void errors_code5_isTheWordEvenIfNothingFollows() {
        wrong(5, outlets(12) + "^outlet#");
        wrong(5, needs(16) + "^need 1");
        wrong(5, TOP + "retry 1;^retry 0;");
    }
}

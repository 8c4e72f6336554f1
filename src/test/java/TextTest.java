/** Promises 1 to 7: the text, its errors, and names. */
public final class TextTest {
    private static final String WIDE = "fuse 9999;";

    public static void main(String[] args) {
        newObject();
        append();
        truncate();
        loadsEveryStatement();
        loadBeginsAnew();
        loadLeavesNothing();
        failedLoadKeepsAll();
        blanksAndTokens();
        errorsOfFuse();
        errorsOfOutlets();
        errorsOfNeeds();
        errorsOfRules();
        errorsOfOrder();
        lowestCodeAndFirstPlace();
        limits();
        find();
        Check.end("TextTest");
    }

    private static void newObject() {
        BlackoutStart x = new BlackoutStart();
        int[] due = {0, 0, 0, 1, 0, 0, 0, 0, 0, 100, 3, 4, 0, 0};
        for (int what = 0; what < due.length; what++) {
            Check.same("new count " + what, due[what], x.count(what));
        }
        Check.same("new errorCode", 0, x.errorCode());
        Check.same("new errorPosition", -1, x.errorPosition());
        Check.same("new buffer", 0, x.truncate(0));
        Check.index("new truncate(1)", x, () -> x.truncate(1));
        Check.same("new rights", 0, x.rights());
        Check.same("new grants", 0, x.grants());
        Check.same("new strain", 0.0, x.strain());
        Check.same("new run", 0, x.run(3));
        Check.same("NONE", -1, BlackoutStart.NONE);
        BlackoutStart y = new BlackoutStart();
        Check.none("new restore", y, () -> { y.restore(0); return 0; });
        Check.state("new undo", y, () -> y.undo());
        Check.index("new outlet", y, () -> y.outlet(0, 0));
    }

    private static void append() {
        BlackoutStart x = new BlackoutStart();
        Check.same("append once", 20, x.append(Texts.four("fuse", 0), Texts.four(" 123", 0),
                Texts.four("4;of", 0), Texts.four("f a;", 0), Texts.four("    ", 0)));
        Check.same("bytes in order", 10, x.truncate(10));
        x.load();
        Check.same("fuse read", 1234, x.count(9));
        for (int k = 1; k <= 45; k++) {
            Check.same("append " + k, 20 * k, x.append(0x66757365, 0x20202020, -1, 0, 0x80000000));
        }
        Check.state("append beyond 900", x, () -> x.append(0, 0, 0, 0, 0));
        Check.same("length stays", 900, x.truncate(900));
        Check.same("cut", 881, x.truncate(881));
        Check.state("append from 881", x, () -> x.append(0, 0, 0, 0, 0));
        Check.same("cut to 880", 880, x.truncate(880));
        Check.same("append to 900", 900, x.append(0, 0, 0, 0, 0));
    }

    private static void truncate() {
        BlackoutStart x = new BlackoutStart();
        Texts.put(x, "fuse 77;garbage");
        Check.index("truncate(-1)", x, () -> x.truncate(-1));
        Check.index("truncate(16)", x, () -> x.truncate(16));
        Check.index("truncate(least)", x, () -> x.truncate(Integer.MIN_VALUE));
        Check.index("truncate(greatest)", x, () -> x.truncate(Integer.MAX_VALUE));
        Check.same("truncate to all", 15, x.truncate(15));
        Check.same("truncate(8)", 8, x.truncate(8));
        Check.index("truncate back", x, () -> x.truncate(9));
        x.load();
        Check.same("cut text", 77, x.count(9));
    }

    private static void loadsEveryStatement() {
        BlackoutStart x = new BlackoutStart();
        Check.same("outlets", 3, Texts.load(x, "fuse 250;outlet lamp 1 30 20 4 7;outlet pump 0 1999 1999 20 0;"
                + "outlet fuse 999 999 999 1 9;need pump lamp;need fuse lamp;loss 0110;retry 20;patience 2;"
                + "strict;off pump;off pump;dark 5 50;dark 999 1;"));
        int[][] rows = {{1, 30, 20, 4, 7, 1, 1, 0, 0, -1}, {0, 1999, 1999, 20, 0, 0, 0, 0, 0, -1},
            {999, 999, 999, 1, 9, 1, 1, 0, 0, -1}};
        for (int k = 0; k < 3; k++) {
            for (int what = 0; what < 10; what++) {
                Check.same("outlet " + k + " " + what, rows[k][what], x.outlet(k, what));
            }
        }
        Check.same("needs", 2, x.count(1));
        Check.same("FUSE", 250, x.count(9));
        Check.same("RETRY", 20, x.count(10));
        Check.same("PATIENCE", 2, x.count(11));
        Check.same("strict", 1, x.count(12));
        Check.same("needs pump", 1, x.needs(1, false));
        Check.same("needed lamp", 6, x.needs(0, true));
    }

    private static void loadBeginsAnew() {
        BlackoutStart x = Texts.loaded("fuse 100;outlet a 10 50 40 1 5;loss 10;strict;retry 1;patience 9;dark 3 2;");
        x.run(40);
        x.setFuse(20);
        x.setPriority(0, 9);
        x.save(0);
        x.save(1);
        x.blackout(50);
        BlackoutStart fresh = Texts.loaded("fuse 70;outlet b 1 2 2 3 4;off b;");
        Check.same("outlets", 1, Texts.load(x, "fuse 70;outlet b 1 2 2 3 4;off b;"));
        Check.samePicture("as new", Check.picture(fresh), Check.picture(x));
        Check.none("slot 0 empty", x, () -> { x.restore(0); return 0; });
        Check.none("slot 1 empty", x, () -> { x.restore(1); return 0; });
        Check.state("no change", x, () -> x.undo());
        Check.same("buffer empty", 0, x.truncate(0));
        Check.index("buffer really empty", x, () -> x.truncate(1));
        Check.same("rules stand once in each text", 1, Texts.load(x, "fuse 70;outlet b 1 2 2 3 4;loss 0;retry 3;patience 4;"));
        Check.same("once more", 1, Texts.load(x, "fuse 70;outlet b 1 2 2 3 4;off b;"));
        fresh.want(0, true);
        x.want(0, true);
        fresh.run(50);
        x.run(50);
        Check.samePicture("goes on as new", Check.picture(fresh), Check.picture(x));
    }

    /** What a text told, and what went on in it, is in no way seen behind loading the plainest text. */
    private static void loadLeavesNothing() {
        String plain = "fuse 70;outlet a 1 2 2 3 4;outlet b 1 2 2 3 4;";
        BlackoutStart fresh = Texts.loaded(plain);
        BlackoutStart x = Texts.loaded("fuse 9;outlet a 9 9 9 9 9;outlet b 9 9 9 9 9;need a b;off a;off b;strict;loss 1;dark 9 9;"
                + "retry 9;patience 9;");
        Texts.load(x, plain);
        Check.samePicture("no rule stays", Check.picture(fresh), Check.picture(x));
        Texts.load(x, "fuse 40;outlet a 9 9 9 1 9;outlet b 9 19 9 20 9;dark 11 50;");
        x.run(4);
        x.want(0, false);
        x.setFuse(8);
        Check.same("b is starting", 2, x.outlet(1, 6));
        Check.same("a message is to be received", 1, x.count(6));
        Texts.load(x, plain);
        Check.samePicture("no start stays", Check.picture(fresh), Check.picture(x));
        x.run(20);
        fresh.run(20);
        Check.samePicture("no stop stays", Check.picture(fresh), Check.picture(x));
        Texts.load(x, "fuse 40;outlet a 30 30 30 1 9;");
        x.run(3);
        x.setFuse(9);
        x.run(1);
        Check.same("it trips", 1, x.count(5));
        Texts.load(x, plain);
        x.run(20);
        Check.samePicture("no darkness stays", Check.picture(fresh), Check.picture(x));
    }

    private static void failedLoadKeepsAll() {
        BlackoutStart x = Texts.loaded("fuse 100;outlet a 10 50 40 1 5;loss 10;");
        x.run(3);
        x.save(1);
        x.run(4);
        java.util.List<Object> before = Check.picture(x);
        Texts.put(x, "fuse 7;outlet b 1 2 3 4 5;");
        Check.same("load", "throws IllegalArgumentException", Check.answer(() -> x.load()));
        Check.same("errorCode", 2, x.errorCode());
        Check.same("errorPosition", 20, x.errorPosition());
        Check.index("buffer empty", x, () -> x.truncate(1));
        java.util.List<Object> after = Check.picture(x);
        Check.samePicture("all else stays", before.subList(2, before.size()), after.subList(2, after.size()));
        Check.same("undo stays", 1, x.undo());
        x.restore(1);
        Check.same("slot stays", 3, x.count(2));
        Check.same("errors stay with a state", 2, x.errorCode());
        Check.same("load of nothing", "throws IllegalArgumentException", Check.answer(() -> x.load()));
        Check.same("errorCode of nothing", 1, x.errorCode());
        Check.same("errorPosition of nothing", 0, x.errorPosition());
        Check.same("load(what) is no loading", 0, x.load(0));
        Check.same("errorCode then", 1, x.errorCode());
        Texts.load(x, "fuse 1;");
        Check.same("errorCode without error", 0, x.errorCode());
        Check.same("errorPosition without error", -1, x.errorPosition());
    }

    private static void blanksAndTokens() {
        right("fuse100;outlet a1 2 2 3 4;need", 1, 30);
        right("fuse100;outlet a1 2 2 3 4;off a;loss01;strict;retry2;", 0, -1);
        right("  \n fuse \n100\n;\n", 0, -1);
        right("fuse 0100;", 0, -1);
        right("fuse 100;  ", 0, -1);
        right("fuse 100 ", 1, 9);
        right("fuse\t100;", 1, 4);
        right("fuse 1 00;", 1, 7);
        right("f use 100;", 1, 0);
        right("fuse 100;\r", 1, 9);
        right("fuse 100;A", 1, 9);
        right("fuse 100;;", 1, 9);
        right("fuse 100;" + (char) 233, 1, 9);
        right("fuse 100;" + (char) 0, 1, 9);
        right("outletoutlet", 1, 0);
        right("fuse 10;outlet aB 1 1 1 1 1;", 1, 16);
    }

    private static void errorsOfFuse() {
        right("", 1, 0);
        right("   ", 1, 3);
        right("fuses 1;", 1, 0);
        right("fus 1;", 1, 0);
        right("tuse 1;", 1, 0);
        right("fusf 1;", 1, 0);
        right("7", 1, 0);
        right("fuse", 1, 4);
        right("fuse ;", 1, 5);
        right("fuse x;", 1, 5);
        right("fuse 0;", 2, 5);
        right("fuse 0000;", 2, 5);
        right("fuse 9999;", 0, -1);
        right("fuse 1;", 0, -1);
        right("fuse 10000;", 1, 5);
        right("fuse 00001;", 1, 5);
        right("fuse 12 fuse 12;", 1, 8);
    }

    private static void errorsOfOutlets() {
        right(WIDE + "outlet", 1, 16);
        right(WIDE + "outlet 1", 1, 17);
        right(WIDE + "outlet ;", 1, 17);
        right(WIDE + "outlet abcdefgh 0 0 0 1 0;", 0, -1);
        right(WIDE + "outlet abcdefghi 0 0 0 1 0;", 1, 17);
        right(WIDE + "outlet outlet 0 0 0 1 0;outlet need 0 0 0 1 0;need need outlet;off outlet;", 0, -1);
        right(WIDE + "outlet a 999 1999 1999 20 9;", 0, -1);
        right(WIDE + "outlet a 1000 1999 1999 20 9;", 2, 19);
        right(WIDE + "outlet a 999 2000 1999 20 9;", 2, 23);
        right(WIDE + "outlet a 999 998 998 20 9;", 2, 23);
        right(WIDE + "outlet a 999 1500 1501 20 9;", 2, 28);
        right(WIDE + "outlet a 999 1500 998 20 9;", 2, 28);
        right(WIDE + "outlet a 5 7 5 20 9;", 0, -1);
        right(WIDE + "outlet a 5 7 7 0 9;", 2, 25);
        right(WIDE + "outlet a 5 7 7 21 9;", 2, 25);
        right(WIDE + "outlet a 5 7 7 20 10;", 2, 28);
        right(WIDE + "outlet a 5 7 7 20 00009;", 1, 28);
        right(WIDE + "outlet a 5 7 7 20;", 1, 27);
        right(WIDE + "outlet a 5 7 7 20 9 9;", 1, 30);
        right(WIDE + "outlet a 5 7 7 20 9", 1, 29);
        right(WIDE + "outlet a 0 0 0 1 0;outlet b 0 0 0 1 0;outlet a 0 0 0 1 0;", 3, 55);
        right(WIDE + "outlet a 0 0 0 1 0;outlet ab 0 0 0 1 0;outlet ba 0 0 0 1 0;", 0, -1);
        right(WIDE + "outlet a 0 0 0 1 0;outlet a 9999 0 0 1 0;", 3, 36);
    }

    private static void errorsOfNeeds() {
        String two = WIDE + "outlet a 0 0 0 1 0;outlet b 0 0 0 1 0;";
        int at = two.length();
        right(two + "need a b;need b a;", 0, -1);
        right(two + "need a a;", 3, at + 7);
        right(two + "need a b;need a b;", 3, at + 16);
        right(two + "need c b;", 4, at + 5);
        right(two + "need a c;", 4, at + 7);
        right(two + "need c d;", 4, at + 5);
        right(two + "need a abcdefghi;", 1, at + 7);
        right(two + "need abcdefghi a;", 1, at + 5);
        right(two + "need a;", 1, at + 6);
        right(two + "need;", 1, at + 4);
        right(two + "need a 1;", 1, at + 7);
        right(two + "need a b b;", 1, at + 9);
        right(two + "need a b", 1, at + 8);
        right(two + "need a", 1, at + 6);
    }

    private static void errorsOfRules() {
        String one = WIDE + "outlet a 0 0 0 1 0;";
        int at = one.length();
        right(one + "loss 0;", 0, -1);
        right(one + "loss 010101010101010101010101;", 0, -1);
        right(one + "loss 0101010101010101010101010;", 1, at + 5);
        right(one + "loss 012;", 1, at + 5);
        right(one + "loss ;", 1, at + 5);
        right(one + "loss a;", 1, at + 5);
        right(one + "loss 01 01;", 1, at + 8);
        right(one + "retry 0;", 2, at + 6);
        right(one + "retry 21;", 2, at + 6);
        right(one + "retry 00001;", 1, at + 6);
        right(one + "patience 1;", 2, at + 9);
        right(one + "patience 21;", 2, at + 9);
        right(one + "patience 20;retry 1;strict;loss 1;", 0, -1);
        right(one + "strict 1;", 1, at + 7);
        right(one + "strict", 1, at + 6);
        right(one + "off b;", 4, at + 4);
        right(one + "off abcdefghi;", 1, at + 4);
        right(one + "off 1;", 1, at + 4);
        right(one + "off a;off a;off a;", 0, -1);
        right(one + "dark 0 1;", 2, at + 5);
        right(one + "dark 1000 1;", 2, at + 5);
        right(one + "dark 999 50;dark 1 1;", 0, -1);
        right(one + "dark 1 0;", 2, at + 7);
        right(one + "dark 1 51;", 2, at + 7);
        right(one + "dark 1;", 1, at + 6);
        right(one + "loss 1;loss 1;", 5, at + 7);
        right(one + "retry 1;retry 1;", 5, at + 8);
        right(one + "patience 2;patience 2;", 5, at + 11);
        right(one + "strict;off a;strict;", 5, at + 13);
        right(one + "loss 1;retry 1;patience 2;strict;loss 1;", 5, at + 33);
        right(one + "retry 1;loss 1;retry 1;", 5, at + 15);
        right(one + "patience 2;strict;patience 2;", 5, at + 18);
        right(one + "rest 1;", 1, at);
        right(one + "soss 1;", 1, at);
        right(one + "lark 1 1;", 1, at);
    }

    private static void errorsOfOrder() {
        String two = WIDE + "outlet a 0 0 0 1 0;outlet b 0 0 0 1 0;";
        int at = two.length();
        right(two + "need a b;outlet c 0 0 0 1 0;", 1, at + 9);
        right(two + "strict;outlet c 0 0 0 1 0;", 1, at + 7);
        right(two + "strict;need a b;", 1, at + 7);
        right(two + "strict;fuse 1;", 1, at + 7);
        right("strict;", 1, 0);
    }

    private static void lowestCodeAndFirstPlace() {
        StringBuilder full = new StringBuilder(WIDE);
        for (char name = 'a'; name <= 'l'; name++) {
            full.append("outlet ").append(name).append(" 0 0 0 1 0;");
        }
        right(full + "outlet", 5, full.length());
        right(full + "outlet a", 5, full.length());
        right(full + "need a b;outlet", 1, full.length() + 9);
        right("fuse 0;outlet a 9 8 7 6 5 4", 2, 5);
        right("fuse 1;outlet a 9 8 #", 2, 18);
        right("fuse 1;outlet a 9 # 7", 1, 18);
        right("fuse 99999;#", 1, 5);
    }

    private static void limits() {
        StringBuilder full = new StringBuilder(WIDE);
        for (char name = 'a'; name <= 'l'; name++) {
            full.append("outlet ").append(name).append(" 0 0 0 1 0;");
        }
        right(full.toString(), 0, -1);
        for (char name = 'b'; name <= 'l'; name++) {
            full.append("need a ").append(name).append(';');
        }
        for (char name = 'c'; name <= 'g'; name++) {
            full.append("need b ").append(name).append(';');
        }
        right(full.toString(), 0, -1);
        right(full + "need a a;", 5, full.length());
        right(full + "dark 1 1;need b h;", 1, full.length() + 9);
        full.append("dark 1 1;dark 1 1;dark 2 1;dark 3 1;");
        right(full.toString(), 0, -1);
        right(full + "dark", 5, full.length());
        right(full + "dark 1 1;", 5, full.length());
        BlackoutStart x = Texts.loaded(full.toString());
        Check.same("12 outlets", 12, x.count(0));
        Check.same("16 needs", 16, x.count(1));
        StringBuilder longest = new StringBuilder(WIDE);
        while (longest.length() < 900) {
            longest.append(' ');
        }
        right(longest.toString(), 0, -1);
        longest.setCharAt(899, 'x');
        right(longest.toString(), 1, 899);
    }

    private static void find() {
        BlackoutStart x = Texts.loaded("fuse 1;outlet a 0 0 0 1 0;outlet ab 0 0 0 1 0;outlet zzzzzzzz 0 0 0 1 0;");
        String[] names = {"a", "ab", "zzzzzzzz"};
        for (int k = 0; k < names.length; k++) {
            Texts.put(x, names[k]);
            Check.same("find " + names[k], k, x.find());
            Check.index("buffer empty", x, () -> x.truncate(1));
        }
        String[] others = {"", "b", "abc", "a ", " a", "A", "zzzzzzz", "zzzzzzzzz", "a;", (char) 0 + "a", "1"};
        for (String other : others) {
            Texts.put(x, other);
            Check.none("find " + other, x, () -> x.find());
            Check.index("buffer empty then, too", x, () -> x.truncate(1));
        }
        Texts.put(x, "a");
        Check.same("errorCode", 0, x.errorCode());
        BlackoutStart y = new BlackoutStart();
        Texts.put(y, "a");
        Check.none("find without outlets", y, () -> y.find());
    }

    /** Loads the text into an object that has an outlet, and asks for the error. */
    private static void right(String text, int code, int position) {
        BlackoutStart x = Texts.loaded("fuse 5;outlet only 1 1 1 1 1;");
        Texts.put(x, text);
        Object answer = Check.answer(() -> x.load());
        Check.same("load of " + text, code != 0, answer.equals("throws IllegalArgumentException"));
        Check.same("errorCode of " + text, code, x.errorCode());
        Check.same("errorPosition of " + text, position, x.errorPosition());
        Check.index("buffer behind " + text, x, () -> x.truncate(1));
    }
}

/** Random runs of calls, the same ones each time, whose answers are compared with the plain model's. */
public final class RandomRunsTest {
    private static final int RUNS = 1500;
    private static final int CALLS = 512;
    private static long seed = 20261119;

    public static void main(String[] args) {
        for (int run = 0; run < RUNS; run++) {
            oneRun(run);
        }
        for (int text = 0; text < 60000; text++) {
            oneText(text);
        }
        Check.end("RandomRunsTest");
    }

    /** From 0 to below the bound. */
    private static int any(int bound) {
        seed = seed * 6364136223846793005L + 1442695040888963407L;
        return (int) ((seed >>> 33) % bound);
    }

    private static int near(int low, int high) {
        return any(12) == 0 ? (any(2) == 0 ? low - 1 : high + 1) : low + any(high - low + 1);
    }

    private static String text() {
        int outlets = any(12) == 0 ? 12 : any(7);
        StringBuilder text = new StringBuilder("fuse ").append(60 + any(240)).append(';');
        for (int k = 0; k < outlets; k++) {
            int steady = any(60);
            int inrush = steady + any(80);
            int peak = steady + any(inrush - steady + 1);
            text.append("outlet ").append((char) ('a' + k)).append(' ').append(steady).append(' ').append(inrush)
                    .append(' ').append(peak).append(' ').append(1 + any(any(3) == 0 ? 20 : 4)).append(' ')
                    .append(any(any(2) == 0 ? 10 : 2)).append(';');
        }
        boolean[] told = new boolean[144];
        for (int k = any(3) * any(4); k > 0 && outlets > 1; k--) {
            int first = any(outlets);
            int second = any(4) == 0 ? any(outlets) : any(first + 1);
            if (first != second && !told[first * 12 + second]) {
                told[first * 12 + second] = true;
                text.append("need ").append((char) ('a' + first)).append(' ').append((char) ('a' + second)).append(';');
            }
        }
        if (any(3) > 0) {
            text.append("loss ");
            int often = 2 + any(6);
            for (int k = 1 + any(24); k > 0; k--) {
                text.append(any(often) == 0 ? '1' : '0');
            }
            text.append(';');
        }
        if (any(2) == 0) {
            text.append("retry ").append(1 + any(any(2) == 0 ? 20 : 5)).append(';');
        }
        if (any(2) == 0) {
            text.append("patience ").append(2 + any(any(2) == 0 ? 19 : 4)).append(';');
        }
        if (any(4) == 0) {
            text.append("strict;");
        }
        for (int k = any(3); k > 0 && outlets > 0 && any(2) == 0; k--) {
            text.append("off ").append((char) ('a' + any(outlets))).append(';');
        }
        for (int k = any(5); k > 0 && any(2) == 0; k--) {
            text.append("dark ").append(1 + any(any(3) == 0 ? 999 : 60)).append(' ').append(1 + any(any(2) == 0 ? 50 : 6))
                    .append(';');
        }
        return text.toString();
    }

    private static final String[] PIECES = {"fuse", "outlet", "need", "loss", "retry", "patience", "strict", "off", "dark",
        ";", ";", " ", "\n", "a", "b", "c", "zz", "abcdefgh", "abcdefghi", "0", "1", "01", "2", "5", "20", "21", "50", "51",
        "999", "1000", "1999", "2000", "9999", "10000", "#", "outlet d 1 2 2 3 4;", "outlet a 1 2 2 3 4;", "need a b;",
        "need b a;", "need a a;", "loss 0110;", "retry 4;", "patience 2;", "strict;", "off a;", "dark 7 3;", "\t"};

    private static String spoilt(String text) {
        StringBuilder spoilt = new StringBuilder(text);
        for (int k = 1 + any(2); k > 0; k--) {
            int at = any(spoilt.length() + 1);
            String piece = PIECES[any(PIECES.length)];
            int kind = any(4);
            if (kind == 0) {
                spoilt.delete(at, Math.min(spoilt.length(), at + 1 + any(5)));
            } else if (kind == 1) {
                spoilt.replace(at, Math.min(spoilt.length(), at + piece.length()), piece);
            } else {
                int next = spoilt.indexOf(";", at);
                spoilt.insert(kind == 2 || next < 0 ? at : next + 1, piece);
            }
        }
        return spoilt.toString();
    }

    private static void put(BlackoutStart x, ModelFace m, String text) {
        String cut = text.length() > 900 ? text.substring(0, 900) : text;
        x.truncate(0);
        m.truncate(0);
        for (int k = 0; k < cut.length(); k += 20) {
            int[] five = new int[5];
            for (int word = 0; word < 5; word++) {
                five[word] = Texts.four(cut, k + 4 * word);
            }
            Check.same("append", m.append(five), x.append(five[0], five[1], five[2], five[3], five[4]));
        }
        x.truncate(cut.length());
        m.truncate(cut.length());
    }

    private static void oneText(int number) {
        BlackoutStart x = new BlackoutStart();
        ModelFace m = new ModelFace();
        String text = spoilt(text());
        put(x, m, text);
        String name = "text " + number + " " + text;
        Check.same(name, Check.answer(() -> m.load()), Check.answer(() -> x.load()));
        Check.same(name + " errorCode", m.errorCode(), x.errorCode());
        Check.same(name + " errorPosition", m.errorPosition(), x.errorPosition());
        Check.same(name + " needs", m.count(1), x.count(1));
        Check.same(name + " fuse", m.count(9), x.count(9));
    }

    private static void oneRun(int run) {
        BlackoutStart x = new BlackoutStart();
        ModelFace m = new ModelFace();
        if (any(40) > 0) {
            put(x, m, text());
            Check.same("run " + run + " load", m.load(), x.load());
        }
        int longest = any(2) == 0 ? 3 : any(2) == 0 ? 30 : 201;
        for (int call = 0; call < CALLS; call++) {
            String name = "run " + run + " call " + call + " ";
            if (any(3) == 0) {
                change(name, x, m, longest);
            } else {
                ask(name, x, m);
            }
        }
    }

    private static void change(String name, BlackoutStart x, ModelFace m, int longest) {
        int outlet = near(0, Math.max(0, m.count(0) - 1));
        int kind = any(100);
        if (kind < 50) {
            int ticks = any(30) == 0 ? any(2) * 201 : 1 + any(longest);
            same(name + "run " + ticks, () -> m.run(ticks), () -> x.run(ticks));
        } else if (kind < 55) {
            int ticks = near(1, any(2) == 0 ? 50 : 5);
            same(name + "blackout " + ticks, () -> m.blackout(ticks), () -> x.blackout(ticks));
        } else if (kind < 68) {
            boolean wants = any(5) < 3;
            same(name + "want " + outlet + wants, () -> m.want(outlet, wants), () -> x.want(outlet, wants));
        } else if (kind < 73) {
            int fuse = any(10) == 0 ? near(1, 9999) : 40 + any(260);
            same(name + "setFuse " + fuse, () -> m.setFuse(fuse), () -> x.setFuse(fuse));
        } else if (kind < 78) {
            int priority = near(0, 9);
            same(name + "setPriority " + outlet, () -> m.setPriority(outlet, priority), () -> x.setPriority(outlet, priority));
        } else if (kind < 81) {
            same(name + "forget", () -> m.forget(), () -> x.forget());
        } else if (kind < 89) {
            same(name + "undo", () -> m.undo(), () -> x.undo());
        } else if (kind < 93) {
            int slot = near(0, 1);
            same(name + "save " + slot, () -> m.save(slot), () -> { x.save(slot); return 0; });
        } else if (kind < 97) {
            int slot = near(0, 1);
            same(name + "restore " + slot, () -> m.restore(slot), () -> { x.restore(slot); return 0; });
        } else if (kind < 98) {
            put(x, m, any(2) == 0 ? "" + (char) ('a' + any(13)) : "ab");
            same(name + "find", () -> m.find(), () -> x.find());
        } else {
            put(x, m, any(3) == 0 ? text() : spoilt(text()));
            same(name + "load", () -> m.load(), () -> x.load());
        }
    }

    private static void ask(String name, BlackoutStart x, ModelFace m) {
        int outlet = near(0, Math.max(0, m.count(0) - 1));
        int kind = any(100);
        int ticks = near(1, any(4) == 0 ? 500 : 40);
        boolean is = any(2) == 0;
        if (kind < 16) {
            int what = near(0, 13);
            same(name + "count " + what, () -> m.count(what), () -> x.count(what));
        } else if (kind < 30) {
            int what = near(0, 9);
            same(name + "outlet " + outlet + " " + what, () -> m.outlet(outlet, what), () -> x.outlet(outlet, what));
        } else if (kind < 46) {
            int what = near(0, 5);
            same(name + "known " + outlet + " " + what, () -> m.known(outlet, what), () -> x.known(outlet, what));
        } else if (kind < 48) {
            same(name + "needs " + outlet + is, () -> m.needs(outlet, is), () -> x.needs(outlet, is));
        } else if (kind < 54) {
            int value = near(0, 3);
            same(name + "outletsWith " + value + is, () -> m.outletsWith(value, is), () -> x.outletsWith(value, is));
        } else if (kind < 57) {
            same(name + "rights", () -> m.rights(), () -> x.rights());
        } else if (kind < 62) {
            int what = near(0, 2);
            same(name + "load " + what, () -> m.load(what), () -> x.load(what));
        } else if (kind < 64) {
            same(name + "strain", () -> m.strain(), () -> x.strain());
        } else if (kind < 73) {
            int index = near(0, Math.max(0, m.count(6) - 1));
            int what = near(0, 2);
            same(name + "message " + index + " " + what, () -> m.message(index, what), () -> x.message(index, what));
        } else if (kind < 77) {
            int sort = near(0, 5);
            same(name + "traffic " + sort + is, () -> m.traffic(sort, is), () -> x.traffic(sort, is));
        } else if (kind < 81) {
            int place = near(0, 4);
            same(name + "learned " + place, () -> m.learned(place), () -> x.learned(place));
        } else if (kind < 86) {
            same(name + "grants", () -> m.grants(), () -> x.grants());
        } else if (kind < 91) {
            same(name + "why " + outlet, () -> m.why(outlet), () -> x.why(outlet));
        } else if (kind < 93) {
            same(name + "runsIn " + outlet, () -> m.runsIn(outlet), () -> x.runsIn(outlet));
        } else if (kind < 96) {
            int how = near(0, 3);
            same(name + "allIn " + how, () -> m.allIn(how), () -> x.allIn(how));
        } else if (kind < 98) {
            int fuse = any(10) == 0 ? near(1, 9999) : 40 + any(260);
            same(name + "peakIn " + ticks + " " + fuse, () -> m.peakIn(ticks, fuse), () -> x.peakIn(ticks, fuse));
        } else {
            int retry = near(1, 20);
            same(name + "sentIn " + ticks + " " + retry, () -> m.sentIn(ticks, retry), () -> x.sentIn(ticks, retry));
        }
    }

    private static void same(String name, Check.Call due, Check.Call got) {
        Check.same(name, Check.answer(due), Check.answer(got));
    }
}

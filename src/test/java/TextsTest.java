/** Promises 20 to 23: texts. */
public final class TextsTest {
    private TextsTest() {
    }

    public static void main(String[] args) {
        put();
        wipe();
        fault();
        carryOut();
        carryOutErrors();
        Checks.end();
    }

    private static void put() {
        Checks.promise(20);
        JoinedRuns x = new JoinedRuns();
        Checks.due("one character", x.put('0'), 1);
        Checks.due("two characters", x.put('=' << 8 | '3'), 3);
        Checks.due("they stand in their order", x.fault(), JoinedRuns.NONE);
        Checks.due("eight characters", x.put(Checks.packed("~!~!~!~!")), 11);
        Checks.due("is no change", x.count(3), 0);

        String before = Checks.look(x);
        Checks.all("no character", new int[] {x.put(0), x.put(256), x.put(1L << 63), x.put('0' << 8)}, -2, -2, -2, -2);
        Checks.all("bad codes", new int[] {x.put(32), x.put(127), x.put(1), x.put(255), x.put(128)}, -2, -2, -2, -2, -2);
        Checks.all("a bad code at each place", new int[] {x.put(Checks.packed("a b")), x.put(Checks.packed(" bc")), x.put(Checks.packed("ab "))}, -2, -2, -2);
        Checks.all("a bad code at the eighth place", new int[] {x.put(Checks.packed(" 1234567")), x.put(-1), x.put(Long.MIN_VALUE), x.put(Long.MAX_VALUE)}, -2, -2, -2, -2);
        Checks.all("a bit above a gap", new int[] {x.put(0x300031), x.put(0x3000000031L), x.put(0x3031323334350037L), x.put(0x0131L)}, -2, -2, -2, -2);
        Checks.due("errors change nothing", Checks.look(x), before);
        Checks.all("the lowest and highest codes", new int[] {x.put(33), x.put(126)}, 12, 13);

        x.wipe();
        Checks.due("72 characters", Checks.write(x, "0=" + "1,".repeat(35)), 72);
        Checks.due("79 characters", x.put(Checks.packed("1,1,1,1")), 79);
        Checks.all("81 and 87 would be too many", new int[] {x.put(Checks.packed("+2")), x.put(Checks.packed("++++++++"))}, -4, -4);
        Checks.due("a bad code is told first", x.put(Checks.packed("+ ")), JoinedRuns.BAD_VALUE);
        Checks.due("79 still", x.count(2), 79);
        Checks.due("80 characters", x.put('*'), 80);
        Checks.due("one more", x.put('1'), JoinedRuns.TOO_MANY);
        Checks.due("80 still", x.count(2), 80);
    }

    private static void wipe() {
        Checks.promise(21);
        JoinedRuns x = new JoinedRuns();
        Checks.due("an empty pad", x.wipe(), 0);
        Checks.write(x, "0=1;1=2;2=3");
        Checks.due("its length", x.wipe(), 11);
        Checks.all("empty then", new int[] {x.count(2), x.wipe(), x.fault(), x.count(3)}, 0, 0, 0, 0);
        Checks.write(x, "!".repeat(80));
        Checks.due("80 characters", x.wipe(), 80);
        Checks.due("a new text starts at the beginning", Checks.write(x, "0!"), 2);
        Checks.due("without a fault", x.fault(), JoinedRuns.NONE);
    }

    private static void faultOf(String text, int due) {
        JoinedRuns x = new JoinedRuns();
        Checks.write(x, text);
        Checks.due("fault of " + text, x.fault(), due);
        Checks.due("carryOut of " + text, x.carryOut() == JoinedRuns.BAD_TEXT, due != JoinedRuns.NONE);
        Checks.due("the pad behind " + text, x.count(2), due == JoinedRuns.NONE ? 0 : text.length());
        Checks.due("changes behind " + text, x.count(3), due == JoinedRuns.NONE ? 1 : 0);
    }

    private static void fault() {
        Checks.promise(22);
        String[] right = {"0=1", "3=9*999", "0=1*0", "1+0,0*10,9", "2!", "0-0*0", "0-999*999", "0@0=0", "3@999=9", "0!;1!;2!;3!",
            "0=1,2*3;1+4;2!;3-5*6;0@7=8", "0=" + "1,".repeat(38) + "1", "0!;".repeat(26) + "0!", "0=1*100,1*10,1*1"};
        for (String text : right) {
            faultOf(text, JoinedRuns.NONE);
        }
        String[] early = {"", "0", "0=", "0+", "0-", "0@", "0=1,", "0=1*", "0=1*5,", "0-1", "0-999", "0-1*", "0@1", "0@1=", "0!;", "0!;1", "0=1;"};
        for (String text : early) {
            faultOf(text, text.length());
        }
        for (String text : new String[] {"4!", "a", ";", "=1", "!", "-", "9=1"}) {
            faultOf(text, 0);
        }
        for (String text : new String[] {"00=1", "0;", "0,1", "0*1", "01"}) {
            faultOf(text, 1);
        }
        for (String text : new String[] {"0=a", "0=,1", "0+*3", "0!!", "0!0", "0-*1", "0--1", "0@=1", "0=;", "0!,1", "0!4"}) {
            faultOf(text, 2);
        }
        for (String text : new String[] {"0=12", "0=1=", "0=1+2", "0-00*1", "0-0;", "0-1=1", "0@1*1", "0@00=1", "0!;4!", "0!;;", "0=1!"}) {
            faultOf(text, 3);
        }
        faultOf("0=:", 2);
        faultOf("0=/", 2);
        faultOf("0-:*1", 2);
        faultOf("0=1,:", 4);
        faultOf("0@1=:", 4);
        faultOf("0@1=/", 4);
        faultOf("0=1*a", 4);
        faultOf("0=1*,2", 4);
        faultOf("0=1,a", 4);
        faultOf("0=1,,2", 4);
        faultOf("0=1*00", 5);
        faultOf("0=1*05", 5);
        faultOf("0-5*06", 5);
        faultOf("0@1=10", 5);
        faultOf("0@1=5,", 5);
        faultOf("0=1*1000", 7);
        faultOf("0=1*9999", 7);
        faultOf("0-1000*1", 5);
        faultOf("0-1*1000", 7);
        faultOf("0@1000=1", 5);
        faultOf("0=1*999*", 7);
        faultOf("0=" + "1,".repeat(39), 80);
        faultOf("0=" + "1,".repeat(38) + "1;", 80);
        faultOf("0!;".repeat(26) + "0~", 79);
    }

    private static void carryOut() {
        Checks.promise(23);
        JoinedRuns x = new JoinedRuns();
        Checks.due("all kinds", Checks.carryOut(x, "0=1*3,2,2*2;1=5;1+5*2,6;0-2*2;0@3=1;1@0=9;1!;0=0;3!"), 9);
        Checks.due("look", Checks.look(x), "0 | 5*2,6,9 |  |  | rows 5 pad 0 fault 0 undo 1");
        Checks.due("one undo takes all of them back", x.undo(), 0);
        Checks.due("look", Checks.look(x), " |  |  |  | rows 0 pad 0 fault 0 undo 0");

        Checks.due("like runs in a text grow together", Checks.carryOut(x, "0=1,1*2,2,2;1+3,3"), 2);
        Checks.due("runs", Checks.runs(x, 0) + " " + Checks.runs(x, 1), "1*3,2*2 3*2");
        Checks.due("and with the run ahead of them", Checks.carryOut(x, "0+2,2,1"), 1);
        Checks.due("runs", Checks.runs(x, 0), "1*3,2*4,1");
        Checks.due("= drops what was there", Checks.carryOut(x, "0=7"), 1);
        Checks.due("runs", Checks.runs(x, 0), "7");
        Checks.due("- and @", Checks.carryOut(x, "0=1*10,2*10;0-5*10;0@0=2;0@9=1"), 4);
        Checks.due("runs", Checks.runs(x, 0), "2,1*4,2*4,1");
        Checks.due("! sorts", Checks.carryOut(x, "0!"), 1);
        Checks.due("runs", Checks.runs(x, 0), "1*5,2*5");

        x.wipe();
        String before = Checks.look(x);
        Checks.due("an empty pad has a fault", x.carryOut(), JoinedRuns.BAD_TEXT);
        Checks.due("nothing changed", Checks.look(x), before);
        Checks.due("a fault behind right orders", Checks.carryOut(x, "0=1;1=2;x"), JoinedRuns.BAD_TEXT);
        Checks.due("the pad stays", x.count(2), 9);
        x.wipe();
        Checks.due("nothing else changed", Checks.look(x), before);
    }

    private static void carryOutErrors() {
        JoinedRuns x = Checks.of("0=1*3;1=2*2;2=3*999");
        stopsAt(x, "0=9*0", 0);
        stopsAt(x, "0=9,8*0,7", 0);
        stopsAt(x, "0+9*5,8*0", 0);
        stopsAt(x, "0=1*999,2", 0);
        stopsAt(x, "0=1*999,2,3*0", 0);
        stopsAt(x, "2+3", 0);
        stopsAt(x, "2+4", 0);
        stopsAt(x, "0+1*997", 0);
        stopsAt(x, "0-3*1", 0);
        stopsAt(x, "0-0*0", 0);
        stopsAt(x, "0-0*4", 0);
        stopsAt(x, "3-0*1", 0);
        stopsAt(x, "0@3=1", 0);
        stopsAt(x, "3@0=1", 0);
        Checks.due("none carried out is a change, too", x.count(3), 6);
        Checks.due("those ahead of an error stand", Checks.carryOut(x, "0=4;1=5;0-9*1;0=6;1=7"), 2);
        Checks.due("runs", Checks.runs(x, 0) + " " + Checks.runs(x, 1), "4 5");
        Checks.due("the pad is empty", x.count(2), 0);
        x.undo();
        Checks.due("one undo takes them back", Checks.runs(x, 0) + " " + Checks.runs(x, 1), "1*3 2*2");

        String most = "3=" + Checks.zigzag(1, 2, 39);
        JoinedRuns y = new JoinedRuns();
        Checks.due("39 runs in a text", Checks.carryOut(y, most), 1);
        Checks.due("runs", y.ofColumn(3, 1), 39);
        stopsAt(y, "3+2,1", 0);
        Checks.due("the 40th", Checks.carryOut(y, "3+1,2*9"), 1);
        JoinedRuns z = Checks.of(most);
        Checks.carryOut(z, "3+1,2*9");
        stopsAt(z, "3+1", 0);
        stopsAt(y, "3@41=1", 0);
        Checks.due("it grows", Checks.carryOut(z, "3+2*5"), 1);
        Checks.due("runs", z.ofColumn(3, 1), 40);
    }

    private static void stopsAt(JoinedRuns x, String text, int carriedOut) {
        String[] before = {Checks.runs(x, 0), Checks.runs(x, 1), Checks.runs(x, 2), Checks.runs(x, 3)};
        Checks.due("carryOut of " + text, Checks.carryOut(x, text), carriedOut);
        for (int column = 0; column < 4; column++) {
            Checks.due("column " + column + " behind " + text, Checks.runs(x, column), before[column]);
        }
        Checks.due("the pad behind " + text, x.count(2), 0);
    }
}

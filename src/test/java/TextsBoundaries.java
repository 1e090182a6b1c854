import java.util.function.Supplier;

/** The chapter "Texts" and promises 20 to 23: every sentence that names a boundary. */
final class TextsBoundaries {
    /** How a text without a fault may begin, and which characters may come next; "." stands for its end. */
    private static final String[][] NEXT = {
        {"", "0123"}, {"0", "=+!-@"}, {"3", "=+!-@"},
        {"0=", "0123456789"}, {"0+", "0123456789"}, {"0=0", "*,;."}, {"0+9", "*,;."}, {"0=1*", "0123456789"},
        {"0=1*0", ",;."}, {"0=1*1", "0123456789,;."}, {"0=1*9", "0123456789,;."}, {"0=1*10", "0123456789,;."},
        {"0=1*99", "0123456789,;."}, {"0=1*100", ",;."}, {"0+1*999", ",;."}, {"0=1,", "0123456789"}, {"0=1*5,", "0123456789"},
        {"0=1,2", "*,;."}, {"0=1;", "0123"}, {"0=1;3", "=+!-@"},
        {"0!", ";."}, {"0!;", "0123"}, {"0!;1", "=+!-@"}, {"0!;1!", ";."},
        {"0-", "0123456789"}, {"0-0", "*"}, {"0-1", "0123456789*"}, {"0-9", "0123456789*"}, {"0-10", "0123456789*"},
        {"0-99", "0123456789*"}, {"0-100", "*"}, {"0-999", "*"}, {"0-1*", "0123456789"}, {"0-1*0", ";."}, {"0-1*9", "0123456789;."},
        {"0-1*10", "0123456789;."}, {"0-1*99", "0123456789;."}, {"0-1*100", ";."}, {"0-1*999", ";."}, {"0-1*1;", "0123"},
        {"0@", "0123456789"}, {"0@0", "="}, {"0@1", "0123456789="}, {"0@9", "0123456789="}, {"0@10", "0123456789="},
        {"0@99", "0123456789="}, {"0@100", "="}, {"0@999", "="}, {"0@1=", "0123456789"}, {"0@1=0", ";."}, {"0@1=9", ";."}, {"0@1=9;", "0123"}};

    private TextsBoundaries() {
    }

    static void all() {
        Sentences.chapter("Texts");
        Sentences.sentence("Ahead of the calls `put`, `wipe`, `fault`, `carryOut` the interface says: ---- texts.",
            () -> Boundary.asked("fault changes nothing", Made::withAll, JoinedRuns::fault, -6));
        grammar();
        orders();
        moreOrders();
        columnsValuesNumbers();
        faults();
        put();
        codes();
        putErrors();
        wipe();
        fault();
        carryOut();
        carryOutAnswers();
    }

    private static int faultOf(String text) {
        return Made.withText(text).fault();
    }

    private static void faults(int due, String... texts) {
        for (String text : texts) {
            Checks.due("the fault of " + text, faultOf(text), due);
        }
    }

    /** Carries a text out on an object as it is made: how many orders are carried out, and the columns then. */
    private static void carried(Supplier<JoinedRuns> made, String text, int many, String columns) {
        JoinedRuns x = made.get();
        Checks.due("carryOut of " + text, Checks.carryOut(x, text), many);
        Checks.due("the columns behind " + text, Checks.columns(x), columns);
        Checks.due("the pad behind " + text, x.count(2), 0);
    }

    private static JoinedRuns some() {
        return Checks.of("0=1*3,2;1=5*999;2=9");
    }

    private static void grammar() {
        Sentences.sentence("The pad is a text of at most 80 characters, a row of orders", () -> {
            JoinedRuns x = Made.fullPad();
            Checks.all("a full pad", new int[] {x.count(2), x.fault(), x.carryOut(), x.count(2)}, 80, -6, 19, 0);
            Checks.due("columns", Checks.columns(x), "1*28,2 |  |  | ");
            Boundary.refused("one character more", Made::fullPad, y -> y.put('1'), -4);
        });
        Sentences.sentence("text = order { \";\" order }", () -> {
            faults(-6, "0!", "0!;1!", "0!;".repeat(26) + "0!");
            faults(0, ";", ";0!");
            faults(2, "0!,0!", "0!0!", "0!!");
            faults(3, "0!;", "0!;;0!");
            carried(JoinedRuns::new, "3!;".repeat(26) + "3!", 27, " |  |  | ");
        });
        Sentences.sentence("order = column \"=\" runs |", () -> {
            faults(-6, "0=1", "3=9*999,0");
            faults(2, "0=", "0=;", "0=,");
        });
        Sentences.sentence("column \"+\" runs |", () -> {
            faults(-6, "0+1", "3+9*999,0");
            faults(2, "0+", "0+;", "0++");
        });
        Sentences.sentence("column \"!\" |", () -> {
            faults(-6, "0!", "3!");
            faults(2, "0!1", "0!=");
        });
        Sentences.sentence("column \"-\" number \"*\" number |", () -> {
            faults(-6, "0-0*0", "3-999*999");
            faults(2, "0-", "0-*1", "0--1*1");
            faults(3, "0-1", "0-1,1", "0-1=1");
            faults(4, "0-1*", "0-1**", "0-1*;");
            faults(5, "0-1*1,", "0-1*1*", "0-1*1=");
        });
        Sentences.sentence("column \"@\" number \"=\" value", () -> {
            faults(-6, "0@0=0", "3@999=9");
            faults(2, "0@", "0@=1");
            faults(3, "0@1", "0@1*1", "0@1,1");
            faults(4, "0@1=", "0@1==");
            faults(5, "0@1=10", "0@1=1*", "0@1=1,");
        });
        Sentences.sentence("runs = run { \",\" run };", () -> {
            faults(-6, "0=1", "0=1,1", "0=" + Checks.zigzag(1, 2, 39));
            faults(3, "0=1.2", "0=12");
            faults(4, "0=1,", "0=1,,1", "0=1,*");
            Checks.due("39 runs are the most that a pad holds", Made.pad(79).carryOut(), 1);
        });
        Sentences.sentence("run = value [ \"*\" number ]", () -> {
            faults(-6, "0=1", "0=1*0", "0=1*999", "0=1*1,2,3*3");
            faults(4, "0=1*", "0=1**1", "0=1*,1");
            faults(5, "0=1*1*", "0=1*1*1");
        });
        Sentences.noPromise("```text");
        Sentences.noPromise("```");
    }

    private static void orders() {
        Sentences.sentence("\"=\": the column becomes these runs", () -> {
            carried(TextsBoundaries::some, "0=7", 1, "7 | 5*999 | 9 | ");
            carried(TextsBoundaries::some, "1=6*999", 1, "1*3,2 | 6*999 | 9 | ");
            carried(TextsBoundaries::some, "3=0*998,1", 1, "1*3,2 | 5*999 | 9 | 0*998,1");
            carried(TextsBoundaries::some, "3=0*998,1*2", 0, "1*3,2 | 5*999 | 9 | ");
            carried(TextsBoundaries::some, "3=0*999,0", 0, "1*3,2 | 5*999 | 9 | ");
            carried(TextsBoundaries::some, "3=4,4*2,4,5,5", 1, "1*3,2 | 5*999 | 9 | 4*4,5*2");
            String most = Checks.zigzag(1, 2, 39);
            carried(TextsBoundaries::some, "2=" + most, 1, "1*3,2 | 5*999 | " + most + " | ");
            carried(Made::fullOfBoth, "0=3", 1, "3 |  |  | ");
        });
        Sentences.sentence("\"+\": they come behind it", () -> {
            carried(TextsBoundaries::some, "0+7", 1, "1*3,2,7 | 5*999 | 9 | ");
            carried(TextsBoundaries::some, "0+2*5,2,3", 1, "1*3,2*7,3 | 5*999 | 9 | ");
            carried(TextsBoundaries::some, "3+8,8", 1, "1*3,2 | 5*999 | 9 | 8*2");
            carried(TextsBoundaries::some, "0+1*995", 1, "1*3,2,1*995 | 5*999 | 9 | ");
            carried(TextsBoundaries::some, "0+1*996", 0, "1*3,2 | 5*999 | 9 | ");
            carried(TextsBoundaries::some, "0+2*990,1*5,2", 0, "1*3,2 | 5*999 | 9 | ");
            carried(TextsBoundaries::some, "1+5", 0, "1*3,2 | 5*999 | 9 | ");
            carried(TextsBoundaries::some, "1+6", 0, "1*3,2 | 5*999 | 9 | ");
            String runs = Checks.runs(Made.runs(38, 3), 0);
            carried(() -> Made.runs(38, 3), "0+1,2", 1, runs + ",1,2 |  |  | ");
            carried(() -> Made.runs(38, 3), "0+1,2,1", 0, runs + " |  |  | ");
            carried(() -> Made.runs(38, 3), "0+2,1,2,2", 1, Checks.runs(Made.runs(37, 3), 0) + ",2*4,1,2*2 |  |  | ");
        });
    }

    private static void moreOrders() {
        Sentences.sentence("\"!\": sort() it", () -> {
            carried(() -> Checks.of("0=9,0,9,5"), "0!", 1, "0,5,9*2 |  |  | ");
            carried(() -> Checks.of("0=9,0,9,5"), "3!", 1, "9,0,9,5 |  |  | ");
            carried(Made::fullOfBoth, "0!", 1, "1*480,2*519 |  |  | ");
        });
        Sentences.sentence("\"-\": remove() from a row on, so many", () -> {
            carried(TextsBoundaries::some, "0-0*1", 1, "1*2,2 | 5*999 | 9 | ");
            carried(TextsBoundaries::some, "0-3*1", 1, "1*3 | 5*999 | 9 | ");
            carried(TextsBoundaries::some, "0-0*4", 1, " | 5*999 | 9 | ");
            carried(TextsBoundaries::some, "0-0*5", 0, "1*3,2 | 5*999 | 9 | ");
            carried(TextsBoundaries::some, "0-3*2", 0, "1*3,2 | 5*999 | 9 | ");
            carried(TextsBoundaries::some, "0-4*1", 0, "1*3,2 | 5*999 | 9 | ");
            carried(TextsBoundaries::some, "0-0*0", 0, "1*3,2 | 5*999 | 9 | ");
            carried(TextsBoundaries::some, "3-0*1", 0, "1*3,2 | 5*999 | 9 | ");
            carried(TextsBoundaries::some, "1-0*999", 1, "1*3,2 |  | 9 | ");
            carried(TextsBoundaries::some, "1-1*998", 1, "1*3,2 | 5 | 9 | ");
            carried(TextsBoundaries::some, "1-998*1", 1, "1*3,2 | 5*998 | 9 | ");
            carried(TextsBoundaries::some, "1-999*1", 0, "1*3,2 | 5*999 | 9 | ");
        });
        Sentences.sentence("\"@\": set() a row to a value.", () -> {
            carried(TextsBoundaries::some, "0@0=0", 1, "0,1*2,2 | 5*999 | 9 | ");
            carried(TextsBoundaries::some, "0@3=9", 1, "1*3,9 | 5*999 | 9 | ");
            carried(TextsBoundaries::some, "0@4=9", 0, "1*3,2 | 5*999 | 9 | ");
            carried(TextsBoundaries::some, "3@0=9", 0, "1*3,2 | 5*999 | 9 | ");
            carried(TextsBoundaries::some, "1@998=5", 1, "1*3,2 | 5*999 | 9 | ");
            carried(TextsBoundaries::some, "1@998=4", 1, "1*3,2 | 5*998,4 | 9 | ");
            carried(TextsBoundaries::some, "1@999=4", 0, "1*3,2 | 5*999 | 9 | ");
            String runs = Checks.runs(Made.fullOfRuns(), 0);
            carried(Made::fullOfRuns, "0@0=3", 0, runs + " |  |  | ");
            carried(Made::fullOfRuns, "0@119=2", 1, runs + " |  |  | ");
            carried(() -> Made.runs(39, 3), "0@116=2", 1, Checks.runs(Made.runs(38, 3), 0) + ",1*2,2 |  |  | ");
            carried(() -> Made.runs(39, 3), "0@115=2", 0, Checks.runs(Made.runs(39, 3), 0) + " |  |  | ");
        });
    }

    private static void columnsValuesNumbers() {
        Sentences.sentence("A column is 0 to 3, a value 0 to 9, a number 0 to 999, without leading zeros", () -> {
            faults(-6, "0!", "1!", "2!", "3!", "0=0", "0=9", "0@0=0", "0@0=9", "0=1*0", "0=1*999", "0-0*0", "0-999*999", "0@999=1");
            faults(0, "4!", "5!", "9!", "/!", ":!");
            faults(3, "0!;4!", "0!;9!");
            faults(2, "0=/", "0=:", "0-/", "0-:", "0@/", "0@:");
            faults(7, "0=1*1000", "0-1*1000", "0=1*9990", "0+1*9999");
            faults(5, "0-1000*1", "0@1000=1", "0-9999*1", "0@9990=1");
        });
        Sentences.sentence("without leading zeros", () -> {
            faults(-6, "0=1*0", "0-0*0", "0@0=1", "0=1*10,1*100,1*101", "0-10*100");
            faults(5, "0=1*00", "0=1*01", "0=1*000", "0-1*00", "0-1*09");
            faults(3, "0-00*1", "0-01*1", "0@00=1", "0@09=1");
        });
        Sentences.sentence("a run without a number has the length 1", () -> {
            carried(JoinedRuns::new, "0=5", 1, "5 |  |  | ");
            carried(JoinedRuns::new, "0=5*2,6,7*3,8", 1, "5*2,6,7*3,8 |  |  | ");
            carried(JoinedRuns::new, "0=5*1", 1, "5 |  |  | ");
            carried(() -> Made.rows(998), "0+5", 1, "5*999 |  |  | ");
            carried(Made::fullOfRows, "0+5", 0, "5*999 |  |  | ");
        });
        Sentences.sentence("(a run of length 0 is BAD_VALUE for the whole order, which changes nothing then).", () -> {
            faults(-6, "0=5*0", "0+5*0");
            carried(TextsBoundaries::some, "0=7*0", 0, "1*3,2 | 5*999 | 9 | ");
            carried(TextsBoundaries::some, "0=7,8*0,9", 0, "1*3,2 | 5*999 | 9 | ");
            carried(TextsBoundaries::some, "0=7*5,8*0", 0, "1*3,2 | 5*999 | 9 | ");
            carried(TextsBoundaries::some, "0+7*0", 0, "1*3,2 | 5*999 | 9 | ");
            carried(TextsBoundaries::some, "0+2*0", 0, "1*3,2 | 5*999 | 9 | ");
            carried(TextsBoundaries::some, "0+7,8*0", 0, "1*3,2 | 5*999 | 9 | ");
            carried(TextsBoundaries::some, "3=4;0=7*0;3=5", 1, "1*3,2 | 5*999 | 9 | 4");
        });
    }

    private static void faults() {
        Sentences.sentence("The fault is the index of the first character that cannot stand at its place when the text is read from left to right", () -> {
            for (String[] next : NEXT) {
                for (char sign = 33; sign <= 126; sign++) {
                    int fault = faultOf(next[0] + sign);
                    boolean stands = fault == JoinedRuns.NONE || fault == next[0].length() + 1;
                    Checks.due(sign + " can stand behind " + next[0], stands, sign != '.' && next[1].indexOf(sign) >= 0);
                    Checks.due("the fault of " + next[0] + sign + " where it cannot", stands || fault == next[0].length(), true);
                }
            }
        });
        Sentences.sentence("the first character", () -> {
            faults(0, "x", "xxxxxxxx", "4!;x");
            faults(3, "0!;x!;y", "0!;4=1*1000", "0=1x1*00");
            faults(2, "0=x", "0!x" + "0!;".repeat(25), "0=" + "x".repeat(78));
            faults(79, "0!;".repeat(26) + "0~", "0=" + "1,".repeat(38) + "1~");
        });
        Sentences.sentence("(also of a digit by which a number would be above 999)", () -> {
            faults(7, "0=1*1000", "0=1*9990", "0=1*99999", "0-1*1000", "0-1*9999");
            faults(5, "0-1000*1", "0@1000=1", "0-9990*1");
            faults(9, "0-999*9999");
            faults(-6, "0=1*999", "0-999*999", "0@999=9");
        });
        Sentences.sentence("if there is none and the text ends too early (also if it is empty), it is the length of the text.", () -> {
            for (String[] next : NEXT) {
                boolean complete = next[1].indexOf('.') >= 0;
                Checks.due("the fault of " + next[0], faultOf(next[0]), complete ? -6 : next[0].length());
            }
            faults(0, "");
            faults(80, "0=" + "1,".repeat(39), "0!;".repeat(25) + "0!;0-", "0+1;".repeat(20));
            faults(79, "0+1;".repeat(19) + "0-1");
        });
    }

    private static void put() {
        Sentences.chapter("Promise 20: put");
        Sentences.sentence("Appends characters to the pad.", () -> {
            JoinedRuns x = new JoinedRuns();
            Checks.all("to an empty pad, to one that has some, by eight", new int[] {x.put('2'), x.put(Checks.packed("=5")), x.put(Checks.packed(",6*10,70"))}, 1, 3, 11);
            Checks.due("the last character cannot stand there", x.fault(), 10);
            x.wipe();
            Checks.all("they begin anew behind wipe()", new int[] {x.put('3'), x.put('!'), x.fault()}, 1, 2, -6);
        });
        Sentences.sentence("its lowest 8 bits are the last character, the next 8 bits the one before, and so on", () -> {
            JoinedRuns x = new JoinedRuns();
            Checks.due("eight characters", x.put(0x303d312a31302c32L), 8);
            Checks.due("0=1*10,2", x.carryOut(), 1);
            Checks.due("columns", Checks.runs(x, 0), "1*10,2");
            Checks.due("three characters", x.put(0x313d37L), 3);
            Checks.due("1=7", x.carryOut(), 1);
            Checks.due("columns", Checks.runs(x, 1), "7");
        });
        Sentences.sentence("They are given as a number:", () -> {
            String text = "0=1,2,33";
            for (int many = 1; many <= 8; many++) {
                JoinedRuns x = new JoinedRuns();
                Checks.due("so many characters", x.put(Checks.packed(text.substring(0, many))), many);
                Checks.due("the fault of " + text.substring(0, many), x.fault(), many == 8 ? 7 : many == 3 || many == 5 || many == 7 ? -6 : many);
            }
        });
        Sentences.sentence("8 bits that are 0 mean that there are no more characters, and everything above them has to be 0, too.", () -> {
            for (int many = 0; many <= 7; many++) {
                long below = many == 0 ? 0 : Checks.packed("1;1;1;1;".substring(0, many));
                for (int bit = 8 * (many + 1); bit < 64; bit++) {
                    JoinedRuns x = Made.withAll();
                    Checks.due("bit " + bit + " above so many characters: " + many, x.put(below | 1L << bit), -2);
                    Checks.due("the pad then", x.count(2), 11);
                }
            }
            Boundary.refused("a character above a gap", Made::withAll, x -> x.put(0x3b0031L), -2);
            Boundary.refused("a character above a gap of two", Made::withAll, x -> x.put(0x3b000031L), -2);
            Boundary.refused("a character at the top alone", Made::withAll, x -> x.put(0x3b00000000000000L), -2);
            Boundary.refused("seven characters above nothing", Made::withAll, x -> x.put(Checks.packed("1;1;1;1") << 8), -2);
        });
        Sentences.sentence("`characters`: 1 to 8 characters", () -> {
            Checks.due("one", new JoinedRuns().put('~'), 1);
            Checks.due("eight", new JoinedRuns().put(Checks.packed("~~~~~~~~")), 8);
            Boundary.refused("none", Made::withAll, x -> x.put(0), -2);
        });
        Sentences.sentence("Returns the length of the pad then", () -> {
            JoinedRuns x = new JoinedRuns();
            for (int length = 1; length <= 80; length++) {
                Checks.due("a character each", x.put('!'), length);
            }
            JoinedRuns y = new JoinedRuns();
            for (int length = 8; length <= 80; length += 8) {
                Checks.due("eight characters each", y.put(Checks.packed("!!!!!!!!")), length);
            }
        });
    }

    private static void codes() {
        Sentences.sentence("a code is not 33 to 126", () -> {
            for (int place = 0; place < 8; place++) {
                for (int code = 1; code <= 255; code++) {
                    long characters = Checks.packed("1;1;1;1;") & ~(255L << 8 * place) | (long) code << 8 * place;
                    boolean stands = code >= 33 && code <= 126;
                    Checks.due("code " + code + " at place " + place, new JoinedRuns().put(characters), stands ? 8 : -2);
                }
            }
            for (int code = 1; code <= 255; code++) {
                Checks.due("code " + code + " alone", new JoinedRuns().put(code), code >= 33 && code <= 126 ? 1 : -2);
            }
            Boundary.refused("32", Made::withAll, x -> x.put(32), -2);
            Boundary.refused("127", Made::withAll, x -> x.put(127), -2);
            Boundary.refused("255", Made::withAll, x -> x.put(255), -2);
        });
        Sentences.sentence("BAD_VALUE if there is no character,", () -> {
            Boundary.refused("0", JoinedRuns::new, x -> x.put(0), -2);
            Boundary.refused("0, with a full pad", Made::fullPad, x -> x.put(0), -2);
            Boundary.refused("256: no character below a bit", Made::withAll, x -> x.put(256), -2);
        });
    }

    private static void putErrors() {
        Sentences.sentence("or a bit above 8 bits that are 0 is not 0", () -> {
            Boundary.refused("the least long", Made::withAll, x -> x.put(Long.MIN_VALUE), -2);
            Boundary.refused("a character and the sign alone", Made::withAll, x -> x.put(Long.MIN_VALUE | ';'), -2);
            Boundary.refused("a character and 1 << 16", Made::withAll, x -> x.put(1L << 16 | ';'), -2);
            Boundary.refused("more than an int holds", Made::withAll, x -> x.put(1L << 32 | ';'), -2);
            Boundary.refused("the greatest long, of which the codes are bad", Made::withAll, x -> x.put(Long.MAX_VALUE), -2);
            Boundary.refused("-1, of which the codes are bad", Made::withAll, x -> x.put(-1), -2);
        });
        Sentences.sentence("TOO_MANY if the pad would be longer than 80.", () -> {
            for (int more = 1; more <= 8; more++) {
                long characters = Checks.packed("1;1;1;1;".substring(0, more));
                Checks.due("to 80", Made.pad(80 - more).put(characters), 80);
                Checks.due("to 81", Made.pad(81 - more).put(characters), -4);
                Boundary.refused("behind 80", Made::fullPad, x -> x.put(characters), -4);
            }
            Boundary.refused("two behind 79", () -> Made.pad(79), x -> x.put(Checks.packed(";1")), -4);
            Boundary.refused("a bad code behind 80", Made::fullPad, x -> x.put(Checks.packed(" 1")), -2);
            Boundary.refused("a gap behind 80", Made::fullPad, x -> x.put(0x310031L), -2);
        });
    }

    private static void wipe() {
        Sentences.chapter("Promise 21: wipe");
        Sentences.sentence("Empties the pad, and returns the length that it had.", () -> {
            Checks.due("an empty pad", new JoinedRuns().wipe(), 0);
            for (int length : new int[] {1, 8, 79, 80}) {
                JoinedRuns x = Made.pad(length);
                Checks.all("so many characters", new int[] {x.wipe(), x.count(2), x.fault(), x.carryOut(), x.wipe(), x.count(3)}, length, 0, 0, -3, 0, 0);
                Checks.all("then new ones", new int[] {x.put('0'), x.fault(), x.put('!'), x.fault()}, 1, 1, 2, -6);
            }
            JoinedRuns x = Made.fullPad();
            x.wipe();
            Checks.due("80 new ones", Checks.write(x, "1!;".repeat(26) + "1!"), 80);
            Checks.due("are carried out", x.carryOut(), 27);
        });
        Sentences.sentence("Empties the pad", () -> {
            Boundary.recordsNone("wipe", Made::withAll, JoinedRuns::wipe);
            JoinedRuns x = Made.withAll();
            x.wipe();
            Checks.due("all else stays", Checks.look(x), "0,1*2,2,3*2,4*4 | 8*2,5*4,6*2,7 | 9,0 |  | rows 21 pad 0 fault 0 undo 6");
            Checks.due("the slot, too", x.restore(0), 8);
        });
    }

    private static void fault() {
        Sentences.chapter("Promise 22: fault");
        Sentences.sentence("Returns the fault of the pad, NONE if there is none.", () -> {
            Boundary.asked("of an empty pad", JoinedRuns::new, JoinedRuns::fault, 0);
            Boundary.asked("of a text without one", Made::withAll, JoinedRuns::fault, -6);
            Boundary.asked("of a full pad without one", Made::fullPad, JoinedRuns::fault, -6);
            Boundary.asked("of a full pad that ends too early", () -> Made.pad(80), JoinedRuns::fault, 80);
            Boundary.asked("at the first character", () -> Made.withText("!"), JoinedRuns::fault, 0);
            Boundary.asked("at the last character of a full pad", () -> Made.withText("0!;".repeat(26) + "0?"), JoinedRuns::fault, 79);
            Boundary.asked("of orders that can't be carried out", () -> Made.withText("0-5*1;0=1*0"), JoinedRuns::fault, -6);
            JoinedRuns x = Made.withAll();
            Checks.all("asked again and again", new int[] {x.fault(), x.fault(), x.put(';'), x.fault(), x.fault()}, -6, -6, 12, 12, 12);
        });
    }

    private static void carryOut() {
        Sentences.chapter("Promise 23: carryOut");
        Sentences.sentence("Carries the orders of the pad out, one after the other, up to the first one that returns an error", () -> {
            carried(TextsBoundaries::some, "3=1;3+2;3@0=3;3-1*1;3+1,2;3!", 6, "1*3,2 | 5*999 | 9 | 1,2,3");
            carried(TextsBoundaries::some, "0-4*1;3=1", 0, "1*3,2 | 5*999 | 9 | ");
            carried(TextsBoundaries::some, "3=1;0-4*1;3=2", 1, "1*3,2 | 5*999 | 9 | 1");
            carried(TextsBoundaries::some, "3=1;3=2;0-0*0", 2, "1*3,2 | 5*999 | 9 | 2");
            carried(TextsBoundaries::some, "1+5;0!", 0, "1*3,2 | 5*999 | 9 | ");
            carried(TextsBoundaries::some, "1-0*1;1+5;1+5;0!", 2, "1*3,2 | 5*999 | 9 | ");
            carried(TextsBoundaries::some, "0@4=1;0!", 0, "1*3,2 | 5*999 | 9 | ");
            carried(Made::fullPad, "0!;".repeat(26) + "0!", 27, " |  |  | ");
        });
        Sentences.sentence("and empties the pad.", () -> {
            JoinedRuns x = Made.fullPad();
            Checks.all("all are carried out", new int[] {x.carryOut(), x.count(2), x.fault(), x.carryOut()}, 19, 0, 0, -3);
            JoinedRuns y = Made.withText("0-0*1;0=1");
            Checks.all("none is carried out", new int[] {y.carryOut(), y.count(2), y.fault(), y.put('0')}, 0, 0, 0, 1);
        });
        Sentences.sentence("This is a change (one, with all of them; also if none is carried out).", () -> {
            Boundary.isChange("one order", x -> Checks.carryOut(x, "0=1"));
            Boundary.isChange("eight orders", x -> Checks.carryOut(x, "0=1;1=2;2=3;3=4;0+5;1!;2@0=0;0-0*1"));
            Boundary.isChange("two, of which the first one is carried out", x -> Checks.carryOut(x, "0=1;0-9*1"));
            Boundary.isChange("two, of which none is carried out", x -> Checks.carryOut(x, "0@999=1;0=1"));
            JoinedRuns x = Made.withText("0@0=1");
            Checks.all("none on a new object", new int[] {x.carryOut(), x.count(3), x.undo(), x.undo(), x.count(2)}, 0, 1, 0, -5, 0);
        });
    }

    private static void carryOutAnswers() {
        Sentences.sentence("Returns how many orders were carried out", () -> {
            Checks.due("none", Made.withText("0-0*1").carryOut(), 0);
            Checks.due("one", Made.withText("0!").carryOut(), 1);
            Checks.due("the most", Made.withText("3!;".repeat(26) + "3!").carryOut(), 27);
            Checks.due("all but the last one", Made.withText("3!;".repeat(25) + "3-0*1").carryOut(), 25);
        });
        Sentences.sentence("BAD_TEXT if the pad has a fault (then it stays).", () -> {
            Boundary.refused("an empty pad", JoinedRuns::new, JoinedRuns::carryOut, -3);
            Boundary.refused("a fault at the first character", () -> Made.withText("x"), JoinedRuns::carryOut, -3);
            Boundary.refused("a fault behind orders that could be carried out", () -> Made.withText("0=1;1=2;2=3;4"), JoinedRuns::carryOut, -3);
            Boundary.refused("a fault behind an order that could not", () -> Made.withText("0-0*1;"), JoinedRuns::carryOut, -3);
            Boundary.refused("a full pad that ends too early", () -> Made.pad(80), JoinedRuns::carryOut, -3);
            JoinedRuns x = Made.withAll();
            Checks.all("it stays, and goes on", new int[] {x.put(';'), x.carryOut(), x.count(2), x.put(Checks.packed("2=1")), x.carryOut()}, 12, -3, 12, 15, 3);
            Checks.due("columns", Checks.columns(x), "0,1*2,2,3*2,4*4 | 8*2,5*4,6*2,7*3 | 1 | 8*2");
        });
    }
}

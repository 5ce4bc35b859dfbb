import java.nio.charset.StandardCharsets;

/** The sentences on THE TAPE, its TOKENS and the FAULTS 1 to 6, each at its bounds. */
final class TokenTest {
    /** A line's name, then least and most of each of its NUMBERS. */
    private record Kind(String name, int... bounds) {
        int numbers() {
            return bounds.length / 2;
        }

        int least(int i) {
            return bounds[2 * i];
        }

        int most(int i) {
            return bounds[2 * i + 1];
        }

        /** Of a LINE and of a ONE the second NUMBER may not be the first. */
        boolean hasTwoPoints() {
            return name.equals("line") || name.equals("one");
        }

        /** The first so many NUMBERS, all good; the first one is not `other`. */
        String begun(int many, int other) {
            StringBuilder text = new StringBuilder(name);
            for (int i = 0; i < many; i++) {
                int good = Math.max(least(i), 2);
                if (i == 0 && hasTwoPoints() && good == other || i == 1 && hasTwoPoints()) {
                    good++;
                }
                text.append(' ').append(good);
            }
            return text.toString();
        }

        /** The NUMBERS from i on, and the sign. */
        String rest(int i, int first) {
            StringBuilder text = new StringBuilder();
            for (int k = i; k < numbers(); k++) {
                int good = Math.max(least(k), 1);
                text.append(' ').append(k == 1 && hasTwoPoints() && good == first ? good + 1 : good);
            }
            return text.append(';').toString();
        }
    }

    private static final Kind[] KINDS = {
        new Kind("points", 2, 9),
        new Kind("house", 0, 8),
        new Kind("line", 0, 8, 0, 8, 1, 9, 0, 9),
        new Kind("drawer", 0, 50),
        new Kind("one", 0, 8, 0, 8, 0, 40),
        new Kind("rain", 1, 40),
    };

    private TokenTest() { }

    static void run() {
        bytesOfTheTape();
        endCuts();
        eachByteAlone();
        eachByteBehindANumber();
        eachByteBehindAName();
        blanks();
        noBlanks();
        numbersOfTwoFigures();
        namesThatBeginNoLine();
        for (Kind kind : KINDS) {
            for (int i = 0; i < kind.numbers(); i++) {
                numberBounds(kind, i);
                wrongInPlaceOfANumber(kind, i);
            }
            wrongInPlaceOfTheSign(kind);
        }
        roofs();
        pointsTwice();
        itself();
        eachHouseTwice();
        eachRainTwice();
        asManyAsMayBe();
        pointsThatThereAreNot();
        theEndOfAFullTape();
        firstMet();
        cutsAndChanges();
    }

    private static String blanks(int n) {
        return " ".repeat(n);
    }

    /** "Eight bytes come behind THE TAPE, the highest first: how many it has. FULL: more than 400." */
    private static void bytesOfTheTape() {
        for (int room = 0; room <= 16; room++) {
            ChalkRoads x = new ChalkRoads();
            Due.feed(x, blanks(400 - room));
            Due.due("feed with room for " + room, x.feed(0x2020202020202020L), room < 8 ? -3 : 408 - room);
            Due.due("bytes with room for " + room, x.count(3), room < 8 ? 400 - room : 408 - room);
        }
        for (int i = 0; i < 8; i++) {
            ChalkRoads x = new ChalkRoads();
            long v = 0x2020202020202020L ^ (0x20L ^ '.') << 56 - 8 * i;
            x.feed(v);
            Due.due("text() with a point as byte " + i, x.text(), -10 - i);
        }
        long[] ends = {Long.MIN_VALUE, Long.MAX_VALUE, -1, 0, 1, Long.MIN_VALUE + 1, Integer.MIN_VALUE,
            Integer.MAX_VALUE};
        for (long v : ends) {
            ChalkRoads x = new ChalkRoads();
            Due.due("feed(" + v + ")", x.feed(v), 8);
            Due.due("text() of " + v, x.text(), -10);
            Due.due("fault() of " + v, x.fault(), 1);
        }
        ChalkRoads x = new ChalkRoads();
        Due.due("feed of four high bytes", x.feed(0x20202020FFFFFFFFL), 8);
        Due.due("text() of four high bytes", x.text(), -14);
        Due.due("feed of four low bytes", x.feed(0x2020202000000000L), 8);
        Due.due("text() of four low bytes", x.text(), -14);
    }

    /** "THE TAPE keeps its first n bytes: how many it had. BAD (n above that, too)." */
    private static void endCuts() {
        for (int length = 0; length <= 400; length += 8) {
            for (int n : new int[] {0, 1, length - 1, length, length + 1}) {
                ChalkRoads x = new ChalkRoads();
                for (int i = 0; i < length; i += 8) {
                    x.feed(0x2020202020202020L);
                }
                boolean taken = n >= 0 && n <= length;
                Due.due("end(" + n + ") of " + length, x.end(n), taken ? length : -1);
                Due.due("bytes behind end(" + n + ") of " + length, x.count(3), taken ? n : length);
            }
        }
        String text = "house 1;house 2;rain 3;";
        for (int n = 0; n <= text.length(); n++) {
            ChalkRoads x = new ChalkRoads();
            Due.feed(x, text);
            x.end(n);
            Due.feed(x, text.substring(n));
            Due.due("text() cut at " + n + " and told on", x.text(), 3);
        }
    }

    private static boolean isName(int b) {
        return b >= 'a' && b <= 'z';
    }

    private static boolean isFigure(int b) {
        return b >= '0' && b <= '9';
    }

    private static void taken(byte[] bytes, int lines, int fault) {
        ChalkRoads x = new ChalkRoads();
        Due.feedBytes(x, bytes);
        String text = new String(bytes, StandardCharsets.ISO_8859_1);
        Due.due("text() of \"" + text + "\"", x.text(), lines);
        Due.due("fault() of \"" + text + "\"", x.fault(), fault);
    }

    private static byte[] with(String text, int b) {
        byte[] bytes = (text + " ").getBytes(StandardCharsets.ISO_8859_1);
        bytes[text.length()] = (byte) b;
        return bytes;
    }

    /** "NAMES (a .. z), NUMBERS (1 or 2 figures), the sign ; (a point is none)", at each place. */
    private static void eachByteAlone() {
        for (int place = 0; place < 8; place++) {
            for (int b = 0; b < 256; b++) {
                boolean isToken = isName(b) || isFigure(b) || b == ';';
                taken(with(blanks(place), b), b == ' ' ? 0 : -10 - place, b == ' ' ? 0 : isToken ? 2 : 1);
            }
        }
    }

    private static void eachByteBehindANumber() {
        for (int b = 0; b < 256; b++) {
            if (b == ';') {
                taken(with("house 1", b), 1, 0);
            } else if (b == ' ') {
                taken(with("house 1", b), -18, 2);
            } else if (isFigure(b)) {
                taken(with("house 1", b), -16, 3);
            } else {
                taken(with("house 1", b), -17, isName(b) ? 2 : 1);
            }
        }
    }

    private static void eachByteBehindAName() {
        for (int b = 0; b < 256; b++) {
            if (isName(b)) {
                taken(with("house", b), -10, 2);
            } else if (isFigure(b) || b == ' ') {
                taken(with("house", b), b == '9' ? -15 : -16, b == '9' ? 3 : 2);
            } else {
                taken(with("house", b), -15, b == ';' ? 2 : 1);
            }
        }
    }

    /** "blanks (32) ahead, between, behind, as many as wanted" */
    private static void blanks() {
        for (int n : new int[] {1, 2, 7, 8, 9}) {
            String b = blanks(n);
            Due.taken(b, 0);
            Due.taken(b + "house" + b + "1" + b + ";" + b, 1);
            Due.taken(b + "line" + b + "1" + b + "2" + b + "3" + b + "4" + b + ";" + b + "rain" + b + "40" + b + ";", 2);
            Due.taken("line" + b + "1" + b + "2" + b + "3" + b + "4" + b + "roof" + b + ";" + b, 1);
            Due.taken("one" + b + "1" + b + "2" + b + "3" + b + ";" + b, 1);
        }
        Due.taken(blanks(400), 0);
        Due.taken("house" + blanks(393) + "1;", 1);
        Due.taken(blanks(392) + "house 1;", 1);
        Due.taken("house 1;" + blanks(392), 1);
        Due.taken("house 1" + blanks(392) + ";", 1);
    }

    /** "at least one between two NAMES, between two NUMBERS; else none is needed" */
    private static void noBlanks() {
        Due.taken("points9;house8;drawer50;rain40;line8 7 9 9roof;line1 2 3 4;one8 7 40;", 7);
        Due.refused("line12 3 4;", 4, 3);
        Due.refused("line1 23 4;", 6, 3);
        Due.refused("line1 2 34;", 8, 3);
        Due.refused("line1234;", 4, 1);
        Due.refused("line01 2 3;", 10, 2);
        Due.refused("one1 240;", 5, 1);
        Due.refused("houserain1;", 0, 2);
        Due.refused("house1;rainhouse1;", 7, 2);
        Due.refused("line1 2 3 4roofhouse1;", 11, 2);
        Due.refused("house1house2;", 6, 2);
        Due.refused("house1rain2;", 6, 2);
    }

    /** "a NUMBER that is too long (its first byte)": one of three figures or more, whatever it tells. */
    private static void numbersOfTwoFigures() {
        Due.taken("house 0;house 01;house 2;house 03;", 4);
        Due.taken("house 00;drawer 00;drawer 09;drawer 50;", 4);
        for (String number : new String[] {"000", "001", "100", "0000000000000001", "4294967297", "18446744073709551617"}) {
            Due.refused("house " + number + ";", 6, 1);
            Due.refused("line 0 " + number + ";", 7, 1);
            Due.refused("line 0 1 2 " + number + ";", 11, 1);
            Due.refused(number, 0, 1);
            Due.refused("house 1 " + number, 8, 1);
            Due.refused("house 1; " + number, 9, 1);
        }
        Due.refused("house " + "1".repeat(394), 6, 1);
        ChalkRoads x = Due.told("one 08 07 09; points 09; house 08; line 08 07 06 05; drawer 09; rain 08;");
        int[] told = {x.one(0, 0), x.one(0, 1), x.one(0, 2), x.rule(0), x.rule(4), x.line(0, 0), x.line(0, 1),
            x.line(0, 2), x.line(0, 3), x.chalk(0), x.rain(8)};
        int[] want = {8, 7, 9, 9, 256, 8, 7, 6, 5, 9, 1};
        for (int i = 0; i < told.length; i++) {
            Due.due("two figures, " + i, told[i], want[i]);
        }
        for (int v = 0; v <= 50; v++) {
            x = Due.told("drawer " + v + ";" + (v > 9 ? "" : "drawer 0" + v + ";"));
            Due.due("drawer " + v, x.chalk(0), v);
            Due.due("drawer 0" + v, v > 9 ? v : x.chalk(1), v);
        }
    }

    /** "a NAME that begins no line": one letter less, one more, another one, at each place. */
    private static void namesThatBeginNoLine() {
        for (Kind kind : KINDS) {
            String name = kind.name;
            for (int i = 0; i < name.length(); i++) {
                char other = name.charAt(i) == 'a' ? 'z' : (char) (name.charAt(i) - 1);
                Due.refused(name.substring(0, i) + other + name.substring(i + 1) + kind.rest(0, -1), 0, 2);
                Due.refused(name.substring(0, i) + name.substring(i + 1) + kind.rest(0, -1), 0, 2);
                Due.refused(name.substring(0, i) + other + name.substring(i) + kind.rest(0, -1), 0, 2);
                if (i > 0) {
                    Due.refused(name.substring(0, i) + " " + name.substring(i) + kind.rest(0, -1), 0, 2);
                }
            }
            Due.refused(name + "s" + kind.rest(0, -1), 0, 2);
            Due.refused(name + name + kind.rest(0, -1), 0, 2);
            Due.refused(name.toUpperCase() + kind.rest(0, -1), 0, 1);
        }
        for (String name : new String[] {"roof", "a", "z", "abcdefghijklmnopqrstuvwxyz", "text", "end"}) {
            Due.refused(name, 0, 2);
            Due.refused(name + " 1;", 0, 2);
            Due.refused("house 1; " + name + ";", 9, 2);
        }
        Due.refused("z".repeat(400), 0, 2);
        for (String start : new String[] {";", "1", "12", "99"}) {
            Due.refused(start, 0, 2);
            Due.refused("house 1;" + start, 8, 2);
            Due.refused("line 1 2 3 4 roof;" + start, 18, 2);
        }
    }

    private static String ahead(Kind kind) {
        return kind.name.equals("points") ? "" : "points 9;";
    }

    /** FAULT 3 on both sides of the bounds of each NUMBER, and the bounds themselves. */
    private static void numberBounds(Kind kind, int i) {
        int lines = kind.name.equals("points") ? 1 : 2;
        for (int v = 0; v <= 99; v++) {
            String begun = ahead(kind) + kind.begun(i, i == 1 ? v : -1) + " ";
            String text = begun + v + kind.rest(i + 1, i == 0 ? v : -1);
            if (v >= kind.least(i) && v <= kind.most(i)) {
                Due.taken(text, lines);
            } else {
                Due.refused(text, begun.length(), 3);
                Due.refused(begun + v + " .", begun.length(), 3);
                Due.refused(begun + v, begun.length(), 3);
            }
        }
    }

    private static void wrongInPlaceOfANumber(Kind kind, int i) {
        String begun = ahead(kind) + kind.begun(i, -1);
        int length = begun.length();
        Due.refused(begun, length, 2);
        Due.refused(begun + "   ", length + 3, 2);
        Due.refused(begun + ";", length, 2);
        Due.refused(begun + " ;", length + 1, 2);
        for (String name : new String[] {"roof", "house", "x", kind.name}) {
            Due.refused(begun + " " + name, length + 1, 2);
            Due.refused(begun + "  " + name + ";", length + 2, 2);
        }
        Due.refused(begun + " 100", length + 1, 1);
        Due.refused(begun + " 007;", length + 1, 1);
        for (String sign : new String[] {".", "-1", "+1", "A", "{", "`", "/", ":", ",", "\n", "\u00e9", "\u0000"}) {
            Due.refused(begun + sign, length, 1);
            Due.refused(begun + " " + sign + ";", length + 1, 1);
        }
    }

    private static void wrongInPlaceOfTheSign(Kind kind) {
        String begun = ahead(kind) + kind.begun(kind.numbers(), -1);
        int length = begun.length();
        Due.taken(begun + ";", ahead(kind).isEmpty() ? 1 : 2);
        Due.refused(begun, length, 2);
        Due.refused(begun + "  ", length + 2, 2);
        Due.refused(begun + " 1;", length + 1, 2);
        Due.refused(begun + " 99", length + 1, 2);
        Due.refused(begun + " 100", length + 1, 1);
        Due.refused(begun + " " + kind.name + " 1;", length + 1, 2);
        Due.refused(begun + " x", length + 1, 2);
        Due.refused(begun + ".", length, 1);
        Due.refused(begun + " :", length + 1, 1);
        if (kind.name.equals("line")) {
            Due.taken(begun + "roof;", 2);
        } else {
            Due.refused(begun + "roof;", length, 2);
            Due.refused(begun + " roof", length + 1, 2);
        }
    }

    /** "line N N N N [ roof ] ;" */
    private static void roofs() {
        Due.taken("line 0 1 1 1 roof;", 1);
        for (String name : new String[] {"roo", "roofs", "rooff", "oof", "rof", "rooe", "line", "rain", "sroof"}) {
            Due.refused("line 0 1 1 1 " + name + ";", 13, 2);
            Due.refused("line 0 1 1 1 roof " + name + ";", 18, 2);
        }
        Due.refused("line 0 1 1 1 roof", 17, 2);
        Due.refused("line 0 1 1 1 roof ", 18, 2);
        Due.refused("line 0 1 1 1 roof roof;", 18, 2);
        Due.refused("line 0 1 1 1 roof 1;", 18, 2);
        Due.refused("line 0 1 1 1 roof 100;", 18, 1);
        Due.refused("line 0 1 1 1 roof.", 17, 1);
        Due.refused("line 0 1 1 roof 1;", 11, 2);
        for (int l = 0; l < 12; l++) {
            ChalkRoads x = Due.told("line 0 1 1 1;".repeat(l) + "line 0 1 1 1 roof;" + "line 0 1 1 1;".repeat(11 - l));
            for (int k = 0; k < 12; k++) {
                Due.due("roof of " + k + " told of " + l, x.line(k, 4), k == l ? 1 : 0);
            }
        }
    }

    /** FAULT 4: "points for the second time (its NAME)", whatever comes behind it. */
    private static void pointsTwice() {
        for (int n = 2; n <= 9; n++) {
            ChalkRoads x = Due.told("points " + n + ";");
            Due.due("points " + n, x.rule(0), n);
            Due.refused("points " + n + ";points " + n + ";", 9, 4);
        }
        Due.refused("points 5;points", 9, 4);
        Due.refused("points 5;points 1;", 9, 4);
        Due.refused("points 5;points 100;", 9, 4);
        Due.refused("points 5;points.", 9, 4);
        Due.refused("house 1;points 5;rain 1;points 5;", 24, 4);
        Due.refused("points 5;point 5;", 9, 2);
    }

    /** FAULT 4: "a POINT and itself (the second one)" */
    private static void itself() {
        for (int i = 0; i <= 8; i++) {
            Due.refused("points 9;line " + i + " " + i + " 1 1;", 16, 4);
            Due.refused("points 9;line " + i + " 0" + i + " 1 1;", 16, 4);
            Due.refused("points 9;one " + i + " " + i + " 1;", 15, 4);
            Due.refused("line " + i + " " + i, 7, 4);
            Due.refused("one " + i + " " + i + ".", 6, 4);
        }
        Due.refused("line 9 9 1 1;", 5, 3);
        Due.refused("one 9 9 1;", 4, 3);
    }

    /** FAULT 4: "a HOUSE that is one"; as many HOUSES as POINTS may be. */
    private static void eachHouseTwice() {
        String all = "points 9;house 0;house 1;house 2;house 3;house 4;house 5;house 6;house 7;house 8;";
        Due.due("houses of all", Due.told(all).rule(4), 511);
        for (int i = 0; i <= 8; i++) {
            Due.due("house " + i, Due.told("points 9;house " + i + ";").rule(4), 1 << i);
            Due.refused(all + "house " + i + ";", all.length() + 6, 4);
            Due.refused(all + "house 0" + i, all.length() + 6, 4);
            Due.refused("house " + i + ";house " + i + ";", 14, 4);
        }
        Due.refused(all + "house 9;", all.length() + 6, 3);
    }

    /** FAULT 4: "RAIN in a QUARTER that has it (it)"; RAIN in all QUARTERS. */
    private static void eachRainTwice() {
        StringBuilder all = new StringBuilder();
        for (int q = 1; q <= 40; q++) {
            all.append("rain ").append(q).append(';');
        }
        ChalkRoads x = Due.told(all.toString());
        for (int q = 1; q <= 40; q++) {
            Due.due("rain(" + q + ") of all", x.rain(q), 1);
            String one = "rain " + q + ";";
            ChalkRoads y = Due.told(one);
            for (int k = 1; k <= 40; k++) {
                Due.due("rain(" + k + ") by " + one, y.rain(k), k == q ? 1 : 0);
            }
            Due.refused(one + "rain " + q + ";", one.length() + 5, 4);
            Due.refused(all + "rain " + q + ";", all.length() + 5, 4);
        }
        Due.refused(all + "rain 0;", all.length() + 5, 3);
        Due.refused(all + "rain 41;", all.length() + 5, 3);
    }

    /** FAULT 5: "the 13th line, the 6th drawer, the 6th one (its NAME)" */
    private static void asManyAsMayBe() {
        asManyAsMayBe("line 0 1 1 1;", 12, 1);
        asManyAsMayBe("line 0 1 1 1 roof;", 12, 1);
        asManyAsMayBe("drawer 1;", 5, 2);
        asManyAsMayBe("one 0 1 1;", 5, 3);
        String all = "line 0 1 1 1;".repeat(12) + "drawer 1;".repeat(5) + "one 0 1 1;".repeat(5);
        Due.taken(all, 22);
        Due.refused(all + "line", all.length(), 5);
        Due.refused(all + "drawer", all.length(), 5);
        Due.refused(all + "one", all.length(), 5);
        Due.taken(all + "house 1;rain 1;points 2;", 25);
    }

    private static void asManyAsMayBe(String line, int most, int rule) {
        String name = line.substring(0, line.indexOf(' '));
        for (int n = 0; n <= most; n++) {
            ChalkRoads x = Due.told(line.repeat(n));
            for (int what = 1; what <= 3; what++) {
                Due.due("rule(" + what + ") of " + n + " times " + line, x.rule(what), what == rule ? n : 0);
            }
        }
        String all = line.repeat(most);
        for (String behind : new String[] {line, name, name + " ", name + ".", name + ";", name + " 99", name + " 100"}) {
            Due.refused(all + behind, all.length(), 5);
            Due.refused(all + "house 4;  " + behind, all.length() + 10, 5);
        }
        Due.refused(all + name + name, all.length(), 2);
    }

    /** "Behind all (the length): 6 a POINT that there is not." */
    private static void pointsThatThereAreNot() {
        for (int n = 2; n <= 9; n++) {
            String points = "points " + n + ";";
            for (int i = 2; i <= 8; i++) {
                String[] named = {"house " + i + ";", "line " + i + " 0 1 1;", "line 0 " + i + " 1 1 roof;",
                    "one " + i + " 0 1;", "one 0 " + i + " 1;"};
                for (String line : named) {
                    if (i < n) {
                        Due.taken(points + line, 2);
                        Due.taken(line + points + "  ", 2);
                    } else {
                        thereIsNot(points + line);
                        thereIsNot(line + points);
                        thereIsNot(points + line + "rain 1;house 0;line 0 1 1 1;one 0 1 0;");
                        thereIsNot(points + "house 0;line 0 1 1 1;one 0 1 0;" + line + "  ");
                    }
                }
            }
        }
        thereIsNot("house 5;");
        thereIsNot("line 4 5 1 1;");
        thereIsNot("one 5 4 1;");
        Due.taken("house 4;line 4 3 1 1;one 3 4 1;", 3);
        // each other FAULT is met ahead of it
        Due.refused("house 8;.", 8, 1);
        Due.refused("house 8;house", 13, 2);
        Due.refused("house 8;rain 0;", 13, 3);
        Due.refused("house 8;house 8;", 14, 4);
        Due.refused("house 8;" + "drawer 1;".repeat(5) + "drawer", 53, 5);
        // a text that is taken forgets a POINT that one behind a FAULT has named
        ChalkRoads x = new ChalkRoads();
        Due.feed(x, "house 8;line 0 8 1 1;one 8 0 1;");
        Due.due("text() of what there is not", x.text(), -41);
        Due.feed(x, "house 4;");
        Due.due("text() behind it", x.text(), 1);
        Due.due("rule(4) behind it", x.rule(4), 16);
    }

    /** Nothing behind the last line: what comes behind it would be met first. */
    private static void thereIsNot(String text) {
        ChalkRoads x = new ChalkRoads();
        Due.feed(x, text);
        Due.due("text() of \"" + text + "\"", x.text(), -10 - text.length());
        Due.due("fault() of \"" + text + "\"", x.fault(), 6);
    }

    /** "THE TAPE has 400 bytes, places from 0": FAULTS at its last place, and at its length. */
    private static void theEndOfAFullTape() {
        Due.due("bytes of a full tape", Worlds.fullTape().length(), 400);
        Due.taken(Worlds.fullTape(), 42);
        Due.refused(blanks(399) + ".", 399, 1);
        Due.refused(blanks(399) + ";", 399, 2);
        Due.refused(blanks(399) + "1", 399, 2);
        Due.refused(blanks(399) + "a", 399, 2);
        Due.refused(blanks(397) + "123", 397, 1);
        Due.refused(blanks(393) + "house 9", 399, 3);
        Due.refused(blanks(395) + "house", 400, 2);
        Due.refused(blanks(393) + "house 1", 400, 2);
        Due.refused(blanks(391) + "line 0 0 ", 398, 4);
        Due.refused("drawer 1;".repeat(5) + blanks(349) + "drawer", 394, 5);
        Due.refused(blanks(392) + "house 5;", 400, 6);
        Due.refused("house 5;" + blanks(392), 400, 6);
        // as many lines as THE TAPE has room for, and no LINE, no ONE
        StringBuilder all = new StringBuilder("points9;" + "drawer0;".repeat(5));
        for (int i = 0; i < 9; i++) {
            all.append("house").append(i).append(';');
        }
        for (int q = 1; q <= 40; q++) {
            all.append("rain").append(q).append(';');
        }
        Due.taken(all.toString(), 55);
        Due.taken(all + blanks(400 - all.length()), 55);
        ChalkRoads x = new ChalkRoads();
        Due.due("text() of an empty tape", x.text(), 0);
        Due.due("fault() of an empty tape", x.fault(), 0);
    }

    /** "the first met as it is read (a TOKEN is read when the one before has been taken)" */
    private static void firstMet() {
        Due.refused("roof.", 0, 2);
        Due.refused("house 9.", 6, 3);
        Due.refused("house 1 2.", 8, 2);
        Due.refused("house 1;house 1.", 14, 4);
        Due.refused("line 3 3.", 7, 4);
        Due.refused("one 3 3.", 6, 4);
        Due.refused("rain 1;rain 1.", 12, 4);
        Due.refused("points 2;points.", 9, 4);
        Due.refused("drawer 1;".repeat(5) + "drawer.", 45, 5);
        Due.refused("house 5;.", 8, 1);
        Due.refused("line 9 100", 5, 3);
        Due.refused("line 100 9", 5, 1);
        Due.refused("line 0 0 0 10;", 7, 4);
        Due.refused("line 0 1 0 10;", 9, 3);
        Due.refused("line 0 1 1 10 house;", 11, 3);
        Due.refused("line 0 1 1 1 house 9;", 13, 2);
    }

    /** A text cut at each place, and with each byte at each place, held against Plain. */
    private static void cutsAndChanges() {
        String text = "points 9;house 8; line 0 1 2 3 roof;drawer 50;one 8 7 40;rain 40;house 0;";
        for (int n = 0; n <= text.length(); n++) {
            asPlain(text.substring(0, n).getBytes(StandardCharsets.ISO_8859_1));
            asPlain(text.substring(n).getBytes(StandardCharsets.ISO_8859_1));
        }
        for (int i = 0; i < text.length(); i++) {
            for (int b = 0; b < 256; b++) {
                byte[] bytes = text.getBytes(StandardCharsets.ISO_8859_1);
                bytes[i] = (byte) b;
                asPlain(bytes);
            }
        }
    }

    private static void asPlain(byte[] bytes) {
        ChalkRoads x = new ChalkRoads();
        Plain plain = new Plain();
        Due.feedBytes(x, bytes);
        for (int i = 0; i < bytes.length; i += 8) {
            long v = 0;
            for (int k = i; k < i + 8; k++) {
                v = v << 8 | (k < bytes.length ? bytes[k] & 255 : ' ');
            }
            plain.feed(v);
        }
        plain.end(bytes.length);
        String text = new String(bytes, StandardCharsets.ISO_8859_1);
        Due.due("text() of \"" + text + "\"", x.text(), plain.text());
        Due.due("fault() of \"" + text + "\"", x.fault(), plain.fault());
        for (int what = 0; what < 5; what++) {
            Due.due("rule(" + what + ") of \"" + text + "\"", x.rule(what), plain.rule(what));
        }
    }
}

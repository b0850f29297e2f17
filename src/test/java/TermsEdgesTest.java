/** The edges that the section "Terms" names: a test a sentence, in the document's order. */
final class TermsEdgesTest {
    private static final int NONE = -9;
    private static final Check check = new Check();
    // Both ends of each bound of a text: six streets, nine corners, three plants.
    private static final String LONGEST = "y6012330-01-12-23-34-45-50-02-20-20,p012,s333,w000";

    public static void main(String[] args) {
        theLastOf512CallsIsStillRight();
        noneIsTold();
        setsAreToldAsBits();
        sharesAreInLeastTerms();
        streetsAreTwoToSix();
        asManySeasonsAsStreets();
        seasonsOfStreetsAreZeroToThree();
        cornersAreNoneToNine();
        cornersAreOfStreetsThatThereAre();
        aCornerIsOfTwoStreets();
        theSameTwoMayBeToldAgain();
        plantsAreOneToThree();
        lettersAreThree();
        wishesAreThreeOfZeroToThree();
        aTextThatEndsTooSoon();
        aCodeWithWhichNoTextGoesOn();
        partsThatAreLeftOut();
        codesBehindAWholeText();
        codesAreNumbers();
        codesAreOfTheirLane();
        kindsHaveNumbers();
        aTextMakesAllAnew();
        aTextThatIsNotTakenLeavesNothingToTheNext();
        aTextLeavesSheetsAndTrace();
        check.end();
    }

    private static int told(String text) {
        return Desk.tell(new SeasonStreets(), text);
    }

    private static void theLastOf512CallsIsStillRight() {
        SeasonStreets asked = Desk.withCity("y201-01,p011");
        for (int call = 14; call < 511; call++) {
            asked.quickest(1, 0, call % 24);
        }
        check.due("512: the last quickest", asked.quickest(1, 0, -1), 3);
        SeasonStreets told = new SeasonStreets();
        Desk.writeText(told, 0, 0, 0, "y201-01,p011");
        for (int call = 13; call < 511; call++) {
            told.city(0, 0, 0, 12);
        }
        check.due("512: the last city", told.city(0, 0, 0, 12), 1);
        SeasonStreets renewed = new SeasonStreets();
        for (int call = 0; call < 510; call++) {
            renewed.sheet(call % 4, call % 3, call % 61);
        }
        check.due("512: the last sheet", renewed.sheet(0, 2, 60), 1);
        check.due("512: its last cell", renewed.cell(0, 59, 2), 0);
    }

    private static void noneIsTold() {
        check.due("NONE", SeasonStreets.NONE, -9);
        SeasonStreets x = Desk.withCity("y201,p222");
        check.due("NONE: no route", x.quickest(1, 0, -1), -9);
        check.due("NONE: no way", x.mild(0, 1), -9);
        check.due("NONE: no street", x.best(), -9);
        check.due("NONE: told for not at all", x.reading(0, -9), 0);
    }

    private static void setsAreToldAsBits() {
        SeasonStreets x = Desk.withCity("y6000000-05-51-53,p000,p111,p000");
        check.due("bit k for street k", x.ofStreet(5, 1), 1 | 2 | 8);
        check.due("bit 5 for street 5", x.ofStreet(0, 1), 32);
        check.due("no bit", x.ofStreet(4, 1), 0);
        check.due("bit k for plant k", Desk.route(x, "000", 0), 1 | 4);
        check.due("bits of plants 0 and 2", x.quickest(1 | 4, 0, -1), 3);
        check.due("bit of plant 1", x.quickest(2, 0, -1), NONE);
        x.reading(2, 2);
        Desk.writeRoute(x, "000");
        check.due("bit k for season k", x.wishes(2, 0, 1, 2, 0, 3), 1);
        check.due("bit k for kind k", x.kinds(2, 1, 2, 0, 3), 1 | 4);
    }

    private static void sharesAreInLeastTerms() {
        SeasonStreets x = Desk.withCity("y201-01,p011,w300,p222");
        check.due("4 of 8: the upper", x.odds(0, 0, 4, 0), 1);
        check.due("4 of 8: the lower", x.odds(0, 0, 4, 1), 2);
        check.due("4 of 4: the upper", x.odds(1, 0, 3, 0), 1);
        check.due("4 of 4: the lower", x.odds(1, 0, 3, 1), 1);
        check.due("none of 4: the upper", x.odds(2, 0, 3, 0), 0);
        check.due("none of 4: the lower is above 0", x.odds(2, 0, 3, 1), 1);
        SeasonStreets row = Desk.withCity(Desk.ROW);
        check.due("26 of 69 as it is: the upper", row.odds(2, 2, 5, 0), 26);
        check.due("26 of 69 as it is: the lower", row.odds(2, 2, 5, 1), 69);
    }

    private static void streetsAreTwoToSix() {
        String seasons = "000000000";
        for (int y = 0; y <= 9; y++) {
            String text = "y" + y + seasons.substring(0, y) + ",p000";
            check.due("streets: " + y, told(text), y >= 2 && y <= 6 ? 1 : -101);
            SeasonStreets x = Desk.withCity(text);
            check.due("that many: " + y, x.many(1), y >= 2 && y <= 6 ? y : 0);
        }
        check.due("streets: no digit, below", told("y/00,p000"), -101);
        check.due("streets: no digit, above", told("y:00,p000"), -101);
    }

    private static void asManySeasonsAsStreets() {
        for (int y = 2; y <= 6; y++) {
            String head = "y" + y + "000000".substring(0, y - 1);
            check.due("a season too few ahead of a plant: " + y, told(head + ",p000"), -100 - head.length());
            check.due("a season too few ahead of a corner: " + y, told(head + "-01,p000"), -100 - head.length());
            check.due("as many: " + y, told(head + "3,p000"), 1);
            check.due("a season too many: " + y, told(head + "33,p000"), -100 - head.length() - 1);
        }
    }

    private static void seasonsOfStreetsAreZeroToThree() {
        for (int s = 0; s < 6; s++) {
            for (char code : "/0123456789:".toCharArray()) {
                StringBuilder text = new StringBuilder("y6000000,p000");
                text.setCharAt(2 + s, code);
                boolean is = code >= '0' && code <= '3';
                check.due("season " + code + " of street " + s, told(text.toString()), is ? 1 : -102 - s);
                SeasonStreets x = Desk.withCity(text.toString());
                check.due("it is " + code, x.ofStreet(s, 0), is ? code - '0' : -1);
            }
        }
    }

    private static void cornersAreNoneToNine() {
        String[] pairs = {"-01", "-02", "-03", "-04", "-05", "-12", "-13", "-14", "-15", "-23", "-24"};
        StringBuilder head = new StringBuilder("y6000000");
        for (int corners = 0; corners <= 9; corners++) {
            SeasonStreets x = new SeasonStreets();
            check.due("corners: " + corners, Desk.tell(x, head + ",p000"), 1);
            check.due("that many: " + corners, x.many(2), corners);
            head.append(pairs[corners]);
        }
        check.due("ten corners: the - of the tenth", told(head + ",p000"), -100 - 8 - 27);
        check.due("eleven corners: the - of the tenth", told(head + "-24,p000"), -100 - 8 - 27);
        check.due("nine corners and a -", told(head.substring(0, 8 + 27) + "-"), -100 - 8 - 27);
        String same = "y200" + "-01".repeat(9);
        check.due("the same nine times", told(same + ",p000"), 1);
        check.due("the same ten times", told(same + "-01,p000"), -100 - same.length());
    }

    private static void cornersAreOfStreetsThatThereAre() {
        for (int y = 2; y <= 6; y++) {
            String head = "y" + y + "000000".substring(0, y);
            for (int digit = 1; digit <= 9; digit++) {
                check.due("corner of " + digit + " and 0 of " + y, told(head + "-" + digit + "0,p000"),
                    digit < y ? 1 : -100 - head.length() - 1);
                check.due("corner of 0 and " + digit + " of " + y, told(head + "-0" + digit + ",p000"),
                    digit < y ? 1 : -100 - head.length() - 2);
            }
            check.due("corner of no digit, below", told(head + "-/0,p000"), -100 - head.length() - 1);
            check.due("corner of no digit, above", told(head + "-0:,p000"), -100 - head.length() - 2);
        }
    }

    private static void aCornerIsOfTwoStreets() {
        for (int y = 2; y <= 6; y++) {
            String head = "y" + y + "000000".substring(0, y) + "-01";
            for (int s = 0; s < y; s++) {
                check.due("corner of " + s + " with itself, of " + y, told(head + "-" + s + s + ",p000"),
                    -100 - head.length() - 2);
            }
        }
    }

    private static void theSameTwoMayBeToldAgain() {
        SeasonStreets x = new SeasonStreets();
        check.due("the same two again", Desk.tell(x, "y3000-01-01,p000"), 1);
        check.due("once", x.many(2), 1);
        check.due("the same two the other way", Desk.tell(x, "y3000-01-10,p000"), 1);
        check.due("once", x.many(2), 1);
        check.due("behind others", Desk.tell(x, "y3000-21-01-12-10-12,p000"), 1);
        check.due("each once", x.many(2), 2);
    }

    private static void plantsAreOneToThree() {
        String head = "y200-01";
        check.due("no plant: it ends too soon", told(head), -107);
        check.due("no plant and no corner", told("y200"), -104);
        String plants = "";
        for (int count = 1; count <= 3; count++) {
            plants += ",w123";
            SeasonStreets x = new SeasonStreets();
            check.due("plants: " + count, Desk.tell(x, head + plants), count);
            check.due("that many: " + count, x.many(0), count);
            check.due("the last", x.ofPlant(count - 1, 3), 3);
            check.due("none behind it", x.ofPlant(count, 0), -1);
        }
        check.due("four plants: the , of the fourth", told(head + plants + ",w123"), -100 - 7 - 15);
        check.due("three plants and a ,", told(head + plants + ","), -100 - 7 - 15);
    }

    private static void lettersAreThree() {
        for (int code = -128; code < 128; code++) {
            SeasonStreets x = new SeasonStreets();
            Desk.writeText(x, 0, 0, 0, "y200,p000");
            x.put(0, 5, code);
            boolean is = code == 'p' || code == 's' || code == 'w';
            check.due("letter " + code, x.city(0, 0, 0, 9), is ? 1 : -105);
        }
    }

    private static void wishesAreThreeOfZeroToThree() {
        for (int t = 0; t < 3; t++) {
            for (char code : "/0123456789:".toCharArray()) {
                StringBuilder text = new StringBuilder("y200,p000,s000,w000");
                text.setCharAt(16 + t, code);
                boolean is = code >= '0' && code <= '3';
                check.due("wish " + code + " of stage " + t, told(text.toString()), is ? 3 : -116 - t);
            }
        }
        check.due("no wish", told("y200,p,s000"), -106);
        check.due("two wishes", told("y200,p00,s000"), -108);
        check.due("four wishes", told("y200,p0000,s000"), -109);
    }

    private static void aTextThatEndsTooSoon() {
        check.due("the whole", told(LONGEST), 3);
        for (int length = 0; length < LONGEST.length(); length++) {
            int due = length == 40 ? 1 : length == 45 ? 2 : -100 - length;
            check.due("ends behind " + length, told(LONGEST.substring(0, length)), due);
        }
    }

    private static void aCodeWithWhichNoTextGoesOn() {
        for (int place = 0; place < LONGEST.length(); place++) {
            for (char code : " y/4xPz\u0001".toCharArray()) {
                StringBuilder text = new StringBuilder(LONGEST);
                text.setCharAt(place, code);
                boolean goesOn = text.toString().equals(LONGEST) || code == '4' && goesOnWithFour(place);
                if (!goesOn) {
                    check.due("code " + code + " at " + place, told(text.toString()), -100 - place);
                }
            }
        }
    }

    /** A 4 tells a street in a corner, and four streets in their place. */
    private static boolean goesOnWithFour(int place) {
        return place == 1 || place >= 8 && place < 35 && (place - 8) % 3 > 0;
    }

    private static void partsThatAreLeftOut() {
        check.due("no y", told("203-01,p012"), -100);
        check.due("no streets and no y", told(",p012"), -100);
        check.due("no y, but corners", told("-01,p012"), -100);
        check.due("no streets", told("y,p012"), -101);
        check.due("no streets, but corners", told("y-01,p012"), -101);
        check.due("no seasons", told("y2,p012"), -102);
        check.due("no seasons, but corners", told("y2-01,p012"), -102);
        check.due("no streets of a corner", told("y203-,p012"), -105);
        check.due("no other street of a corner", told("y203-0,p012"), -106);
        check.due("no -", told("y20301,p012"), -104);
        check.due("no ,", told("y203-01p012"), -107);
        check.due("no letter", told("y203-01,012"), -108);
    }

    private static void codesBehindAWholeText() {
        int end = LONGEST.length();
        for (char code : " 0p-,y".toCharArray()) {
            check.due("behind three plants: " + code, told(LONGEST + code), -100 - end);
            boolean goesOn = code == ',';
            check.due("behind one plant: " + code, told("y200,p000" + code), goesOn ? -110 : -109);
        }
        check.due("a corner behind a plant", told("y200,p000-01"), -109);
    }

    private static void codesAreNumbers() {
        int[] codes = {121, 50, 48, 51, 45, 48, 49, 44, 112, 48, 49, 50, 44, 115, 51, 51, 51, 44, 119, 50, 49, 48};
        for (int lane = 0; lane < 3; lane++) {
            SeasonStreets x = new SeasonStreets();
            x.sheet(0, lane, codes.length);
            for (int i = 0; i < codes.length; i++) {
                x.put(0, i, codes[i]);
            }
            check.due("codes of lane " + lane, x.city(0, lane, 0, codes.length), 3);
            check.due("48 and 51 are 0 and 3", 10 * x.ofStreet(0, 0) + x.ofStreet(1, 0), 3);
        }
        SeasonStreets six = Desk.withCity("y6000000-01,p000");
        for (int i = 0; i < 16; i++) {
            check.due("54 is 6", six.cell(0, i, 0), "y6000000-01,p000".charAt(i));
        }
    }

    private static void codesAreOfTheirLane() {
        String text = "y203-01,p012";
        int[] far = {256, -256, 65536, -65536, 1 << 24};
        for (int more : far) {
            for (int place = 0; place < text.length(); place++) {
                for (int lane = 0; lane < 3; lane++) {
                    SeasonStreets x = new SeasonStreets();
                    Desk.writeText(x, 0, lane, 0, text);
                    x.put(0, place, text.charAt(place) + more);
                    boolean cut = lane == 0 || lane == 1 && more % 65536 == 0;
                    check.due("lane " + lane + ", code and " + more + " at " + place, x.city(0, lane, 0, text.length()),
                        cut ? 1 : -100 - place);
                }
            }
        }
    }

    private static void kindsHaveNumbers() {
        SeasonStreets x = Desk.withCity("y200,w000,p000,s000");
        check.due("w", x.ofPlant(0, 0), 2);
        check.due("p", x.ofPlant(1, 0), 0);
        check.due("s", x.ofPlant(2, 0), 1);
    }

    private static void aTextMakesAllAnew() {
        SeasonStreets x = Desk.withCity(LONGEST);
        for (int number = 0; number < 8; number++) {
            x.reading(2, number);
        }
        x.let(1, 0);
        x.corner(1, 3, true);
        String want = State.of(Desk.withCity("y3123-02,s321"));
        check.due("a lesser city", Desk.tell(x, "y3123-02,s321"), 1);
        check.due("no readings", x.many(3), 0);
        check.due("none to take back", x.back(1), -2);
        check.due("numbers anew", x.reading(0, 1), 0);
        x.back(1);
        check.due("all anew", State.of(x).equals(want) ? 1 : 0, 1);
        SeasonStreets same = Desk.withCity("y3123-02,s321");
        same.let(0, 3);
        same.corner(0, 1, true);
        same.corner(0, 2, false);
        same.reading(0, 0);
        check.due("the same text again", same.city(0, 0, 0, 13), 1);
        check.due("all anew, too", State.of(same).equals(want) ? 1 : 0, 1);
    }

    private static void aTextThatIsNotTakenLeavesNothingToTheNext() {
        String[] texts = {"y3333-01-12-20,s333,s333,s33", "y3333-01-12-20,s333,s333,s333,", "y6", "x"};
        for (String spoilt : texts) {
            SeasonStreets x = Desk.withCity("y40000-01-12-23,w000,w000,w000");
            Desk.tell(x, spoilt);
            check.due("one plant behind " + spoilt, Desk.tell(x, "y3012-02,p012"), 1);
            check.due("one corner behind " + spoilt, x.many(2), 1);
            check.due("to street 2 alone behind " + spoilt, x.ofStreet(0, 1), 4);
            Desk.tell(x, spoilt);
            check.due("no plant behind " + spoilt, Desk.tell(x, "y3012-01"), -108);
            check.due("the corner stays behind " + spoilt, x.ofStreet(0, 1), 4);
            Desk.tell(x, spoilt);
            check.due("another one behind " + spoilt, Desk.tell(x, "y6012301-45,p012"), 1);
            check.due("its corner alone behind " + spoilt, x.many(2), 1);
        }
    }

    private static void aTextLeavesSheetsAndTrace() {
        SeasonStreets x = Desk.withCity("y200,p000");
        x.label(0);
        x.tell(0);
        x.sheet(1, 1, 2);
        x.put(1, 1, -300);
        x.sheet(2, 2, 0);
        check.due("taken", x.city(0, 0, 0, 9), 1);
        check.due("trace", x.trace(), 31 * 4 + 1);
        check.due("cells", x.cell(1, 1, 1), -300);
        check.due("a row of none", x.lose(2), 1);
        check.due("nothing", x.lose(3), 0);
        check.due("its own sheet", x.cell(0, 0, 0), 'y');
    }
}

/**
 * The bounds of texts, each on both sides: what TOKENS are made of, the ranges of each NUMBER, the most of everything
 * that a text may hold, its bytes, and the places of FAULTS. In the texts of faults @ stands ahead of the FAULT.
 */
public final class TextBoundsTest {
    private static final String LAND = "land 3 3;";
    private static final String CHAIR = LAND + "chair a 0 0 1 1 2 2;";

    public static void main(String[] args) {
        bytesBetweenTokens();
        bytesOfNames();
        bytesOfNumbers();
        bytesOfSigns();
        bytesOfBrackets();
        bytesOfSemicolons();
        lengthsOfWords();
        lengthsOfNumbers();
        tokensThatTouch();
        bytesBehindTheEnd();
        wordsThatBeginALine();
        wordsThatNoChairBears();
        namesBesideThoseWords();
        wordsThatAreDirs();
        wordsThatAreWays();
        wordsOfASentence();
        sizesOfTheLand();
        landAheadOfCells();
        cellsOfTheLand();
        ranksAndLoads();
        starts();
        onceAlone();
        laws();
        wallsToldSoFar();
        mostWalls();
        mostStairs();
        mostWide();
        mostLanes();
        mostChairs();
        leastFaultOfOneToken();
        firstFaultAlongTheText();
        endsOfAlleys();
        bytesOfAlleys();
        tokensOverTheMostOfAlleys();
        mostOfPlan();
        bytesOfPlan();
        endsOfPlan();
        mostOnes();
        mostWithin();
        bytesOfSentence();
        endsOfSentence();
        numbersOfSentence();
        emptyTexts();
        earlierAlleysAreForgotten();
        earlierPlansAreForgotten();
        earlierSentencesAreForgotten();
        Check.close("TextBoundsTest");
    }

    private static void good(String text, int lines) {
        Check k = new Check("4, 5");
        k.due("alleys() of '" + text + "'", k.alleys(text), lines);
        k.due("fault() of '" + text + "'", k.x.fault(), 0);
        k.due("count(8) behind '" + text + "'", k.x.count(8), 0);
    }

    private static void fault(String marked, int kind) {
        int place = marked.indexOf('@');
        String text = marked.replace("@", "");
        Check k = new Check("4, 5");
        k.dueFault(text, k.alleys(text), place, kind);
        k.due("count(8) behind '" + text + "'", k.x.count(8), 0);
        k.due("count(0) behind '" + text + "'", k.x.count(0), 0);
    }

    private static void goodPlan(String text, int steps) {
        Check k = new Check("29", CHAIR);
        k.due("plan() of '" + text + "'", k.plan(text), steps);
        k.due("fault() of '" + text + "'", k.x.fault(), 0);
        k.due("count(7) of '" + text + "'", k.x.count(7), steps);
        k.due("count(8) behind '" + text + "'", k.x.count(8), 0);
    }

    private static void faultOfPlan(String marked, int kind) {
        int place = marked.indexOf('@');
        String text = marked.replace("@", "");
        Check k = new Check("29, 5", CHAIR);
        k.plan("a n;a e;");
        k.dueFault(text, k.plan(text), place, kind);
        k.due("count(7) behind '" + text + "'", k.x.count(7), 2);
        k.due("count(8) behind '" + text + "'", k.x.count(8), 0);
    }

    private static void goodSentence(String text, int ones) {
        Check k = new Check("32", CHAIR);
        k.due("sentence() of '" + text + "'", k.sentence(text), ones);
        k.due("fault() of '" + text + "'", k.x.fault(), 0);
        k.due("said() of '" + text + "' is of one CHAIR or none", k.x.said(-1) >= 0, true);
        k.due("count(8) behind '" + text + "'", k.x.count(8), 0);
    }

    private static void faultOfSentence(String marked, int kind) {
        int place = marked.indexOf('@');
        String text = marked.replace("@", "");
        Check k = new Check("32, 5", CHAIR);
        k.sentence("not sick");
        k.dueFault(text, k.sentence(text), place, kind);
        k.due("said(-1) behind '" + text + "'", k.x.said(-1), 1);
        k.due("count(8) behind '" + text + "'", k.x.count(8), 0);
    }

    private static boolean isBlank(int b) {
        return b == 32 || b == 10;
    }

    private static boolean isLetter(int b) {
        return b >= 97 && b <= 122;
    }

    private static boolean isDigit(int b) {
        return b >= 48 && b <= 57;
    }

    /** "with blanks (32, 10) between them or not": no other byte is one. */
    private static void bytesBetweenTokens() {
        for (int b = 0; b < 256; b++) {
            if (b == '@') {
                continue;
            }
            String between = "" + (char) b;
            if (isBlank(b)) {
                good(LAND + between + "wall 0 0;", 2);
                good("land" + between + "3 3;", 1);
            } else {
                fault(LAND + "@" + between + "wall 0 0;", 1);
                fault((isLetter(b) || isDigit(b) ? "@land" : "land@") + between + "3 3;", 1);
            }
        }
        good("land 3 3;wall 0 0;", 2);
        good(" \n land \n 3\n3 \n; wall \n0 0\n;\n ", 2);
    }

    /** "WORDS: small letters". */
    private static void bytesOfNames() {
        for (int b = 0; b < 256; b++) {
            String name = "" + (char) b;
            if (isBlank(b)) {
                fault(LAND + "chair " + name + " @0 0 1 1 2 2;", 1);
            } else if (isLetter(b) && "nesw".indexOf(b) < 0) {
                good(LAND + "chair " + name + " 0 0 1 1 2 2;", 2);
            } else if (isLetter(b)) {
                fault(LAND + "chair @" + name + " 0 0 1 1 2 2;", 1);
                good(LAND + "chair b" + name + " 0 0 1 1 2 2;", 2);
            } else if (b != '@') {
                fault(LAND + "chair @" + name + " 0 0 1 1 2 2;", 1);
                fault(LAND + "chair " + (isDigit(b) ? "@b" + name : "b@" + name) + " 0;", 1);
            }
        }
    }

    /** "NUMBERS: .. digits". */
    private static void bytesOfNumbers() {
        for (int b = 0; b < 256; b++) {
            String number = "" + (char) b;
            if (isBlank(b)) {
                fault(LAND + "wall " + number + " 0@;", 1);
            } else if (b >= '0' && b <= '2') {
                good(LAND + "wall " + number + " 0;", 2);
            } else if (b != '@') {
                fault(LAND + "wall @" + number + " 0;", isDigit(b) ? 2 : 1);
            }
        }
    }

    /** "SIGN: < = >". */
    private static void bytesOfSigns() {
        for (int b = 0; b < 256; b++) {
            String sign = "" + (char) b;
            if (b == '<' || b == '=' || b == '>') {
                goodSentence("rank" + sign + "1", 1);
            } else if (isBlank(b)) {
                faultOfSentence("rank" + sign + "@1", 1);
            } else if (b != '@') {
                faultOfSentence((isLetter(b) || isDigit(b) ? "@rank" : "rank@") + sign + "1", 1);
            }
        }
    }

    private static void bytesOfBrackets() {
        for (int b = 0; b < 256; b++) {
            String sign = "" + (char) b;
            if (b == '@') {
                continue;
            }
            if (b == '(') {
                goodSentence(sign + "sick)", 2);
            } else {
                faultOfSentence(isBlank(b) ? sign + "sick@)" : "@" + sign + "sick)", 1);
            }
            if (b == ')') {
                goodSentence("(sick" + sign, 2);
            } else if (isBlank(b)) {
                faultOfSentence("(sick" + sign + "@", 1);
            } else {
                faultOfSentence((isLetter(b) || isDigit(b) ? "(@sick" : "(sick@") + sign, 1);
            }
        }
    }

    private static void bytesOfSemicolons() {
        for (int b = 0; b < 256; b++) {
            String sign = "" + (char) b;
            if (b == ';') {
                goodPlan("a n" + sign, 1);
            } else if (isBlank(b)) {
                faultOfPlan("a n" + sign + "@", 1);
            } else if (b != '@') {
                faultOfPlan((isLetter(b) || isDigit(b) ? "a @n" : "a n@") + sign, 1);
            }
        }
    }

    /** "WORDS: small letters, 1 to 7". */
    private static void lengthsOfWords() {
        for (int letters = 1; letters <= 7; letters++) {
            good(LAND + "chair " + "q".repeat(letters) + " 0 0 1 1 2 2;", 2);
        }
        for (int letters = 8; letters < 30; letters++) {
            fault(LAND + "chair @" + "q".repeat(letters) + " 0 0 1 1 2 2;", 1);
        }
        good(LAND + "chair aaaaaaa 0 0 1 1 2 2;chair aaaaaa 0 0 1 1 2 2;chair aaaaaab 0 0 1 1 2 2;sick aaaaaaa;", 5);
        fault(LAND + "chair aaaaaaa 0 0 1 1 2 2;sick @aaaaaab;", 3);
        fault(LAND + "chair aaaaaaa 0 0 1 1 2 2;sick @aaaaaa;", 3);
        fault(LAND + "chair aaaaaaa 0 0 1 1 2 2;sick @aaaaaaaa;", 1);
        fault("@stairss 0 0;", 1);
        fault(LAND + "@" + "wall".repeat(220), 1);
    }

    /** "NUMBERS: 1 to 3 digits". */
    private static void lengthsOfNumbers() {
        good("land 3 3;wall 1 1;", 2);
        good("land 03 03;wall 01 01;", 2);
        good("land 003 003;wall 001 000;", 2);
        fault("land @0003 3;", 1);
        fault("land 3 @0003;", 1);
        fault("land @999 3;", 2);
        fault("land @1000 3;", 1);
        fault(LAND + "wall @0000 0;", 1);
        fault(LAND + "wall 0 @0000;", 1);
        // 2 to the 32nd is no 0, nor is 2 to the 64th.
        fault(LAND + "wall @4294967296 0;", 1);
        fault(LAND + "wall 0 @18446744073709551616;", 1);
        fault("land @4294967299 3;", 1);
        fault(LAND + "wall @" + "0".repeat(800) + " 0;", 1);
    }

    /** "A WORD, NUMBER goes on as long as small letters and digits do". */
    private static void tokensThatTouch() {
        fault("@land3 3;", 1);
        fault("land @3x 3;", 1);
        fault("land @3land 3;", 1);
        fault(LAND + "chair @a1 0 0 1 1 2 2;", 1);
        fault(LAND + "chair @1a 0 0 1 1 2 2;", 1);
        fault(LAND + "lane 0 @0n;", 1);
        fault("law rank @x9;", 1);
        fault("law rank @9x;", 1);
        fault("law rank @xx9;", 1);
        faultOfSentence("(sick @x9)", 1);
        faultOfSentence("@rank1", 1);
        faultOfSentence("rank=@1or sick", 1);
        faultOfSentence("@notsick", 1);
        goodSentence("not(sick)or(rank=1)and not(rank<1)", 8);
    }

    /** What is behind the first n bytes is no part of the text, even if a TOKEN could go on there. */
    private static void bytesBehindTheEnd() {
        String text = "land 3 3;wall 2 1;chair ab 0 0 10 0 2 2;";
        for (int n = 0; n <= text.length(); n++) {
            Check whole = new Check("3, 4");
            whole.write(text);
            whole.x.end(n);
            Check cut = new Check("3, 4");
            cut.due("alleys() of " + n + " bytes of more", whole.x.alleys(), cut.alleys(text.substring(0, n)));
            cut.due("fault() of " + n + " bytes of more", whole.x.fault(), cut.x.fault());
        }
        dueCut("land 3 3;land", 9, 1, 0);
        dueCut("lands", 4, -5, 1);
        dueCut("land", 3, -1, 1);
        dueCut("land 3 33;", 8, -9, 1);
        dueCut("land 3 11;", 8, -8, 2);
        dueCut("law rank;", 8, -9, 1);
        dueCut("law ranks;", 8, -9, 1);
        // Bytes of an earlier text are none of this one's.
        Check k = new Check("3, 4");
        k.write("abcdefgh".repeat(40));
        k.x.alleys();
        k.due("count(8)", k.x.count(8), 0);
        k.due("alleys() of an empty tape", k.x.alleys(), 0);
        k.due("alleys() of a shorter text", k.alleys(LAND), 1);
        k.write("sickness there or not");
        k.x.end(4);
        k.due("sentence() of its first four bytes", k.x.sentence(), 1);
    }

    private static void dueCut(String text, int n, int answer, int kind) {
        Check k = new Check("3, 4");
        k.write(text);
        k.due("end(" + n + ")", k.x.end(n), true);
        k.due("alleys() of " + n + " bytes of '" + text + "'", k.x.alleys(), answer);
        k.due("fault()", k.x.fault(), kind);
    }

    private static final String[] WORDS = {"land", "wall", "stairs", "wide", "lane", "chair", "start", "sick", "law", "rank",
        "load", "come", "n", "e", "s", "w", "or", "and", "not", "there", "ahead", "backs", "waits", "place"};

    private static boolean isOneOf(String word, String... words) {
        return java.util.Arrays.asList(words).contains(word);
    }

    private static void wordsThatBeginALine() {
        for (String word : WORDS) {
            boolean begins = isOneOf(word, "wall", "stairs", "wide", "lane", "chair", "start", "sick", "law");
            fault(LAND + (word.equals("land") ? "@land" : begins ? word + "@" : "@" + word), word.equals("land") ? 3 : 1);
            fault(begins || word.equals("land") ? word + "@" : "@" + word + " 0 0;", 1);
        }
        fault(CHAIR + "@a n;", 1);
    }

    /** "NAME: a WORD, none of those told here, in a PLAN or a SENTENCE". */
    private static void wordsThatNoChairBears() {
        for (String word : WORDS) {
            fault(LAND + "chair @" + word + " 0 0 1 1 2 2;", 1);
            fault(CHAIR + "start @" + word + " 1;", 1);
            fault(CHAIR + "sick @" + word + ";", 1);
            faultOfPlan("@" + word + " n;", 1);
            faultOfSentence("ahead @" + word, 1);
        }
    }

    /** A letter more or less than those: all these are NAMES. */
    private static void namesBesideThoseWords() {
        for (String word : WORDS) {
            for (String name : new String[] {word + "s", "a" + word, word.substring(1), word.substring(0, word.length() - 1)}) {
                if (!name.isEmpty() && !isOneOf(name, WORDS)) {
                    Check k = new Check("4, 29, 32");
                    k.due("alleys() of " + name, k.alleys(LAND + "chair " + name + " 0 0 1 1 2 2;sick " + name + ";"), 3);
                    k.due("plan() of " + name, k.plan(name + " n;"), 1);
                    k.due("sentence() of " + name, k.sentence("ahead " + name), 1);
                }
            }
        }
    }

    /** "DIR: 'n' | 'e' | 's' | 'w'". */
    private static void wordsThatAreDirs() {
        for (String word : WORDS) {
            int dir = java.util.Arrays.asList("n", "e", "s", "w").indexOf(word);
            if (dir >= 0) {
                Check k = new Check("4, 7", LAND + "lane 1 1 " + word + ";");
                k.dueCell(11, 3, dir);
                goodPlan("a " + word + ";", 1);
            } else {
                fault(LAND + "lane 1 1 @" + word + ";", 1);
                faultOfPlan("a @" + word + ";", 1);
            }
        }
        fault(CHAIR + "lane 1 1 @a;", 1);
        fault(LAND + "lane 1 1 @0;", 1);
        fault(LAND + "lane 1 1@;", 1);
        faultOfPlan("a @a;", 1);
        faultOfPlan("a @0;", 1);
        faultOfPlan("a@;", 1);
    }

    /** "WAY: 'rank' | 'load' | 'come'". */
    private static void wordsThatAreWays() {
        for (String word : WORDS) {
            if (isOneOf(word, "rank", "load", "come")) {
                good("law " + word + ";", 1);
            } else {
                fault("law @" + word + ";", 1);
                fault("law rank @" + word + ";", 1);
                fault("law rank load come @" + word + ";", 1);
            }
        }
    }

    private static void wordsOfASentence() {
        for (String word : WORDS) {
            boolean whole = isOneOf(word, "sick", "there");
            boolean more = isOneOf(word, "not", "ahead", "rank", "load", "come", "backs", "waits", "place");
            if (whole) {
                goodSentence(word, 1);
            } else {
                faultOfSentence(more ? word + "@" : "@" + word, 1);
                faultOfSentence(more ? "not " + word + "@" : "not @" + word, 1);
                faultOfSentence(more ? "(" + word + "@" : "(@" + word, 1);
            }
            boolean joint = isOneOf(word, "or", "and");
            faultOfSentence(joint ? "sick " + word + "@" : "sick @" + word, 1);
            faultOfSentence(joint ? "rank=1 " + word + " @)" : "rank=1 @" + word + " sick", 1);
        }
        faultOfSentence("@a", 1);
        faultOfSentence("sick @a", 1);
        faultOfSentence("not @a", 1);
    }

    /** "'land' W H (2 to 10 both; once". */
    private static void sizesOfTheLand() {
        for (int n = 0; n <= 999; n++) {
            if (n < 2 || n > 10) {
                fault("land @" + n + " 2;", 2);
                fault("land 10 @" + n + ";", 2);
            } else {
                good("land " + n + " 2;", 1);
                good("land 2 " + n + ";", 1);
            }
        }
        Check k = new Check("36", "land 2 10;");
        k.due("count(0)", k.x.count(0), 2);
        k.due("count(1)", k.x.count(1), 10);
        k.alleys("land 10 2;");
        k.due("count(0)", k.x.count(0), 10);
        k.due("count(1)", k.x.count(1), 2);
        fault(LAND + "@land 3 3;", 3);
        fault(LAND + "law rank;@land 4 4;", 3);
    }

    /** "X, Y without a land, too": and the land must be ahead of them. */
    private static void landAheadOfCells() {
        for (String sort : new String[] {"wall", "stairs", "wide", "lane"}) {
            fault(sort + " @0 0;", 2);
            fault(sort + " @0 0 n;land 3 3;", 2);
            fault("law rank;" + sort + " @999 0;", 2);
            fault(sort + "@", 1);
            fault(sort + " @n 0;", 1);
        }
        fault("chair a @0 0 1 1 2 2;land 3 3;", 2);
        // What has no X and Y may come ahead of the land.
        good("law rank;land 3 3;", 2);
        good("law rank;", 1);
    }

    /** "X from 0, below W, Y from 0, below H". */
    private static void cellsOfTheLand() {
        for (int w = 2; w <= 10; w++) {
            int h = 12 - w;
            String land = "land " + w + " " + h + ";";
            for (String sort : new String[] {"wall", "stairs", "wide"}) {
                good(land + sort + " 0 0;", 2);
                good(land + sort + " " + (w - 1) + " " + (h - 1) + ";", 2);
                fault(land + sort + " @" + w + " 0;", 2);
                fault(land + sort + " 0 @" + h + ";", 2);
            }
            good(land + "lane " + (w - 1) + " " + (h - 1) + " w;", 2);
            fault(land + "lane @" + w + " 0 n;", 2);
            fault(land + "lane 0 @" + h + " n;", 2);
            String last = (w - 1) + " " + (h - 1);
            good(land + "chair a " + last + " 1 1 " + last + ";", 2);
            fault(land + "chair a @" + w + " 0 1 1 0 0;", 2);
            fault(land + "chair a 0 @" + h + " 1 1 0 0;", 2);
            fault(land + "chair a 0 0 1 1 @" + w + " 0;", 2);
            fault(land + "chair a 0 0 1 1 0 @" + h + ";", 2);
            fault(land + "chair a 0 0 1 1 0 @999;", 2);
        }
    }

    /** "RANK LOAD .. 0 to 9 both". */
    private static void ranksAndLoads() {
        for (int n = 0; n <= 12; n++) {
            if (n <= 9) {
                Check k = new Check("6", LAND + "chair a 0 0 " + n + " " + (9 - n) + " 2 2;");
                k.dueChair(0, 1, n);
                k.dueChair(0, 2, 9 - n);
            } else {
                fault(LAND + "chair a 0 0 @" + n + " 1 2 2;", 2);
                fault(LAND + "chair a 0 0 1 @" + n + " 2 2;", 2);
            }
        }
        fault(LAND + "chair a 0 0 @999 1 2 2;", 2);
        fault(LAND + "chair a 0 0 1 @999 2 2;", 2);
        fault(LAND + "chair a 0 0 1 @1000 2 2;", 1);
    }

    /** "'start' CHAIR MINUTE (0 to 99; each CHAIR once; 0 without)". */
    private static void starts() {
        for (int n : new int[] {0, 1, 50, 98, 99}) {
            Check k = new Check("6", CHAIR + "start a " + n + ";");
            k.dueChair(0, 4, n);
            fault(CHAIR + "start a " + n + ";start @a 3;", 3);
        }
        for (int n : new int[] {100, 101, 500, 999}) {
            fault(CHAIR + "start a @" + n + ";", 2);
        }
        fault(CHAIR + "start a @1000;", 1);
        Check k = new Check("6", CHAIR);
        k.dueChair(0, 4, 0);
        fault(CHAIR + "start @b 1;", 3);
        fault("start @a 1;" + CHAIR, 3);
        good(CHAIR + "chair b 0 0 1 1 2 2;start b 1;start a 1;", 5);
    }

    /** "each sort and CELL once", "each CELL once", "told once", "each once". */
    private static void onceAlone() {
        for (String sort : new String[] {"wall", "stairs", "wide"}) {
            fault(LAND + sort + " 2 1;" + sort + " 2 @1;", 3);
            good(LAND + sort + " 2 1;" + sort + " 1 2;", 3);
            fault(LAND + sort + " 0 0;" + sort + " 0 @0;", 3);
            fault(LAND + sort + " 2 2;" + sort + " 002 @02;", 3);
        }
        good(LAND + "wall 2 1;stairs 2 1;wide 2 1;lane 2 1 n;", 5);
        fault(LAND + "lane 2 1 n;lane 2 @1 n;", 3);
        fault(LAND + "lane 2 1 n;lane 2 @1 e;", 3);
        fault(LAND + "lane 2 1 w;lane 2 @1;", 3);
        good(LAND + "lane 2 1 n;lane 1 2 n;", 3);
        fault(CHAIR + "chair @a 1 1 1 1 2 2;", 3);
        fault(CHAIR + "chair b 1 1 1 1 2 2;chair @a 1 1 1 1 2 2;", 3);
        fault(CHAIR + "sick a;sick @a;", 3);
        good(CHAIR + "chair b 1 1 1 1 2 2;sick b;sick a;", 5);
        fault(CHAIR + "sick @b;", 3);
        fault("sick @a;" + CHAIR, 3);
        fault("law rank;@law load;", 3);
        fault("law rank;@law;", 3);
    }

    /** "'law' WAY { WAY } (once; .. each once in it)". */
    private static void laws() {
        fault("law@;", 1);
        fault("law@", 1);
        for (String way : new String[] {"rank", "load", "come"}) {
            good("law " + way + ";", 1);
            fault("law " + way + " @" + way + ";", 3);
            fault("law rank load come @" + way + ";", 3);
        }
        good("law come load rank;", 1);
        good("law load come;", 1);
        fault("law rank load come @backs;", 1);
        fault("law rank load come @a;", 1);
        fault("law rank load come @1;", 1);
        fault("law rank load come@", 1);
        fault("law @waits;", 1);
        fault("law @law;", 1);
    }

    /** "5 a CHAIR that sets out from a wall, or is bound for one, told so far (at Y)". */
    private static void wallsToldSoFar() {
        String wall = LAND + "wall 1 2;";
        fault(wall + "chair a 1 @2 1 1 0 0;", 5);
        fault(wall + "chair a 0 0 1 1 1 @2;", 5);
        fault(wall + "chair a 1 @2 1 1 1 2;", 5);
        good(wall + "chair a 2 1 1 1 1 1;", 3);
        good(LAND + "chair a 1 2 1 1 0 0;wall 1 2;", 3);
        good(LAND + "chair a 0 0 1 1 1 2;wall 1 2;", 3);
        fault(LAND + "chair a 1 2 1 1 0 0;wall 1 2;chair b 1 @2 1 1 0 0;", 5);
        // Stairs, wide CELLS and lanes are no walls.
        good(LAND + "stairs 1 2;wide 1 2;lane 1 2 n;chair a 1 2 1 1 1 2;", 5);
        // Y is no NUMBER, or not as told: that is less than 5.
        fault(wall + "chair a 1 @3 1 1 0 0;", 2);
        fault(wall + "chair a 1 @x 1 1 0 0;", 1);
    }

    private static String many(String sort, int from, int count, String behind) {
        StringBuilder text = new StringBuilder();
        for (int i = from; i < from + count; i++) {
            text.append(sort).append(' ').append(i % 10).append(' ').append(i / 10).append(behind).append(';');
        }
        return text.toString();
    }

    private static void dueMost(String sort, int most, int what, String behind) {
        String land = "land 10 10;";
        for (int n = most - 1; n <= most; n++) {
            Check k = new Check("4, 36");
            k.due("alleys() of " + n + " " + sort, k.alleys(land + many(sort, 0, n, behind)), n + 1);
            k.due("count(" + what + ") of " + n + " " + sort, k.x.count(what), n);
        }
        String full = land + many(sort, 0, most, behind);
        fault(full + "@" + sort + " 9 9" + behind + ";", 4);
        fault(full + "\n @" + sort + " 9 9" + behind + ";", 4);
        // One that is told again, or wrong, is one too many all the same.
        fault(full + "@" + sort + " 0 0" + behind + ";", 4);
        fault(full + "@" + sort, 4);
        fault(full + "@" + sort + " 10 x", 4);
    }

    private static void mostWalls() {
        dueMost("wall", 40, 3, "");
    }

    private static void mostStairs() {
        dueMost("stairs", 12, 4, "");
    }

    private static void mostWide() {
        dueMost("wide", 12, 5, "");
    }

    private static void mostLanes() {
        dueMost("lane", 20, 6, " s");
    }

    private static String chairs(int count) {
        StringBuilder text = new StringBuilder(LAND);
        for (int c = 0; c < count; c++) {
            text.append("chair q").append((char) ('a' + c)).append(" 0 0 ").append(c % 10).append(" 0 2 2;");
        }
        return text.toString();
    }

    private static void mostChairs() {
        for (int n = 0; n <= 8; n++) {
            Check k = new Check("4, 36");
            k.due("alleys() of " + n + " CHAIRS", k.alleys(chairs(n)), n + 1);
            k.due("count(2) of " + n + " CHAIRS", k.x.count(2), n);
            k.due("order(n - 1)", k.x.order(n - 1), n - 1);
            k.due("order(n)", k.x.order(n), -1);
            k.dueChair(n - 1, 1, n == 0 ? Check.THROWN : n - 1);
            k.dueChair(n, 1, Check.THROWN);
        }
        fault(chairs(8) + "@chair z 0 0 1 1 2 2;", 4);
        fault(chairs(8) + "@chair qa 0 0 1 1 2 2;", 4);
        fault(chairs(8) + "@chair", 4);
        fault(chairs(8) + "law rank;sick qh;start qh 9;@chair land", 4);
        good(chairs(8) + "law rank;sick qh;start qh 9;", 12);
    }

    /** "of one TOKEN the least". */
    private static void leastFaultOfOneToken() {
        String forty = "a n;".repeat(40);
        faultOfPlan(forty + "@a n;", 4);
        faultOfPlan(forty + "@b n;", 3);
        faultOfPlan(forty + "@n n;", 1);
        faultOfPlan(forty + "@1 n;", 1);
        faultOfPlan(forty + "@;", 1);
        String twenty = "sick" + " or sick".repeat(19);
        faultOfSentence(twenty + " or @sick", 4);
        faultOfSentence(twenty + " or @not", 4);
        faultOfSentence(twenty + " or @(", 4);
        faultOfSentence(twenty + " or @ahead", 4);
        faultOfSentence(twenty + " or @rank", 4);
        faultOfSentence(twenty + " or @a", 1);
        faultOfSentence(twenty + " or @1", 1);
        faultOfSentence(twenty + " or @)", 1);
        faultOfSentence(twenty + " or@", 1);
        faultOfSentence("((((((((@sick))))))))", 4);
        faultOfSentence("((((((((@or", 1);
        faultOfSentence("((((((((@1", 1);
        // A reserved WORD is no NAME: 1 is less than 3.
        fault(CHAIR + "sick @wall;", 1);
        fault(CHAIR + "start @n 1;", 1);
        faultOfSentence("ahead @place", 1);
    }

    /** "the first along the text". */
    private static void firstFaultAlongTheText() {
        fault("land @1 1;", 2);
        fault("land 3 @1;land 3 3;", 2);
        fault(LAND + "wall @3 3;?", 2);
        fault(LAND + "wall 0 0;chair @n 0 0 10 10 9 9;", 1);
        fault(LAND + "wall 0 0;chair a 0 @0 10 10 9 9;", 5);
        fault(CHAIR + "chair @a 9 9 10 10 9 9;", 3);
        fault(CHAIR + "sick @b;?", 3);
        faultOfPlan("a @?;b n;", 1);
        faultOfPlan("@b ?;", 3);
        faultOfSentence("ahead @b or ?", 3);
        faultOfSentence("sick @? or ahead b", 1);
    }

    /** "the end: how many bytes there are". */
    private static void endsOfAlleys() {
        String[] tokens = {"land", "3", "3", ";", "lane", "1", "1", "e", ";", "chair", "a", "0", "0", "1", "1", "2", "2",
            ";", "start", "a", "9", ";", "sick", "a", ";", "law", "rank", "load", ";"};
        StringBuilder text = new StringBuilder();
        int lines = 0;
        for (String token : tokens) {
            text.append(token);
            if (token.equals(";")) {
                lines++;
                good(text.toString(), lines);
                good(text + " \n ", lines);
            } else {
                fault(text + "@", 1);
                fault(text + " \n @", 1);
            }
            text.append(' ');
        }
    }

    private static String padded(String text, int length) {
        return Check.blanks(length - text.length()) + text;
    }

    /** "ALLEYS are a text of at most 900 bytes": the most, if there are more and no FAULT is ahead. */
    private static void bytesOfAlleys() {
        String two = LAND + "wall 0 0;";
        for (int n = two.length(); n <= 940; n++) {
            if (n <= 900) {
                good(padded(two, n), 2);
            } else {
                Check k = new Check("4, 5");
                k.dueFault(n + " bytes", k.alleys(padded(two, n)), 900, 1);
                k.dueFault(n + " bytes, blanks behind", k.alleys(two + Check.blanks(n - two.length())), 900, 1);
            }
        }
        Check k = new Check("4, 5");
        k.due("alleys() of 900 blanks", k.alleys(Check.blanks(900)), 0);
        k.dueFault("901 blanks", k.alleys(Check.blanks(901)), 900, 1);
        k.dueFault("940 blanks", k.alleys(Check.blanks(940)), 900, 1);
        fault("land @x" + Check.blanks(910), 1);
        fault(LAND + "wall 0 0;wall 0 @0;" + Check.blanks(900), 3);
    }

    /** "TOKENS that begin ahead of it are read whole". */
    private static void tokensOverTheMostOfAlleys() {
        // What begins at 899 is judged; what begins at 900 is not.
        String[] last = {"lawx", "abcdefgh", "12345", "?", "sick1"};
        for (String token : last) {
            fault(padded(LAND, 899) + "@" + token, 1);
            fault(padded(LAND, 900) + "@" + token, 1);
        }
        // A NUMBER of which the first digit alone is ahead of the most.
        Check k = new Check("5");
        k.dueFault("2 at 899", k.alleys(padded(LAND + "wall 2 ", 899) + "10;"), 899, 2);
        k.dueFault("2 at 900", k.alleys(padded(LAND + "wall 2 ", 900) + "10;"), 900, 1);
        k.dueFault("NUMBER as told at 899", k.alleys(padded(LAND + "wall 2 ", 899) + "002;"), 900, 1);
        k.dueFault("3 at 899", k.alleys(padded(CHAIR + "sick ", 899) + "ab;"), 899, 3);
        k.dueFault("3 at 900", k.alleys(padded(CHAIR + "sick ", 900) + "ab;"), 900, 1);
        k.dueFault("NAME as told at 899", k.alleys(padded(CHAIR.replace("chair a", "chair ab") + "sick ", 899) + "ab;"),
            900, 1);
        k.dueFault("land at 899", k.alleys(padded(LAND, 899) + "land 3 3;"), 899, 3);
        k.dueFault("land at 900", k.alleys(padded(LAND, 900) + "land 3 3;"), 900, 1);
        k.dueFault("a WORD as told at 899", k.alleys(padded(LAND, 899) + "wall 0 0;"), 900, 1);
        k.dueFault("; at 900", k.alleys(padded(LAND + "wall 0 0", 900) + ";"), 900, 1);
        k.due("; at 899", k.alleys(padded(LAND + "wall 0 0;", 900)), 2);
        k.dueFault("a ninth CHAIR at 899", k.alleys(padded(chairs(8), 899) + "chair z"), 899, 4);
        k.dueFault("a ninth CHAIR at 900", k.alleys(padded(chairs(8), 900) + "chair z"), 900, 1);
        k.dueFault("5 at 899", k.alleys(padded(LAND + "wall 0 0;chair a 0 ", 899) + "0 1 1 2 2;"), 899, 5);
        k.dueFault("5 at 900", k.alleys(padded(LAND + "wall 0 0;chair a 0 ", 900) + "0 1 1 2 2;"), 900, 1);
    }

    /** "{ CHAIR DIR ; }, 40 at most". */
    private static void mostOfPlan() {
        for (int n = 0; n <= 40; n++) {
            goodPlan("a e;".repeat(n), n);
        }
        faultOfPlan("a e;".repeat(40) + "@a e;", 4);
        faultOfPlan("a e;".repeat(40) + "\n @a", 4);
        faultOfPlan("a e;".repeat(50), 4, 160);
        goodPlan("a e;".repeat(40) + " \n", 40);
    }

    private static void faultOfPlan(String text, int kind, int place) {
        faultOfPlan(text.substring(0, place) + "@" + text.substring(place), kind);
    }

    /** "A PLAN is a text of at most 400 bytes". */
    private static void bytesOfPlan() {
        for (int n = 4; n <= 940; n += n > 390 && n < 410 ? 1 : 7) {
            if (n <= 400) {
                goodPlan(padded("a n;", n), 1);
                goodPlan("a n;" + Check.blanks(n - 4), 1);
            } else {
                faultOfPlan(padded("a n;", n), 1, 400);
                faultOfPlan("a n;" + Check.blanks(n - 4), 1, 400);
            }
        }
        // Forty with the longest NAME are 400 bytes.
        Check k = new Check("29", LAND + "chair abcdefg 0 0 1 1 2 2;");
        k.due("plan() of 40 long ones", k.plan("abcdefg n;".repeat(40)), 40);
        k.dueFault("41 long ones", k.plan("abcdefg n;".repeat(41)), 400, 1);
        k.dueFault("40 long ones, a blank ahead", k.plan(" " + "abcdefg n;".repeat(40)), 400, 1);
        faultOfPlan(padded("ab n;", 404), 3, 399);
        faultOfPlan(padded("ab n;", 405), 1, 400);
        faultOfPlan(padded("a n;", 402), 1, 400);
        faultOfPlan(padded("a nn;", 402), 1, 399);
        faultOfPlan(padded("a nn;", 403), 1, 400);
        faultOfPlan("a n;".repeat(40) + Check.blanks(239) + "a", 4, 399);
        faultOfPlan("a n;".repeat(40) + Check.blanks(240) + "a", 1, 400);
    }

    private static void endsOfPlan() {
        faultOfPlan("a@", 1);
        faultOfPlan("a \n@", 1);
        faultOfPlan("a n@", 1);
        faultOfPlan("a n  @", 1);
        faultOfPlan("a n;a@", 1);
        goodPlan("a n; ", 1);
        goodPlan(" \n", 0);
    }

    /** "20 ONES": each not, bracket and other one. */
    private static void mostOnes() {
        for (int n = 1; n <= 20; n++) {
            goodSentence("sick" + " or sick".repeat(n - 1), n);
            goodSentence("sick" + " and sick".repeat(n - 1), n);
        }
        faultOfSentence("sick" + " and sick".repeat(19) + " and @sick", 4);
        goodSentence("not sick" + " or not sick".repeat(9), 20);
        faultOfSentence("not sick" + " or not sick".repeat(9) + " or @not sick", 4);
        faultOfSentence("sick or not sick" + " or not sick".repeat(8) + " or not @sick", 4);
        goodSentence("(sick)" + "or(sick)".repeat(9), 20);
        faultOfSentence("(sick)" + "or(sick)".repeat(9) + "or@(sick)", 4);
        faultOfSentence("sick or(sick)" + "or(sick)".repeat(8) + "or(@sick)", 4);
        String eight = "rank<1 or load=2 and come>3 or there or ahead a or backs=1 and waits=1 or place=1";
        goodSentence(eight + " or sick".repeat(12), 20);
        faultOfSentence(eight + " or sick".repeat(12) + " or @sick", 4);
        faultOfSentence(eight + " or sick".repeat(12) + " or @", 1);
    }

    /** "8 within one another", and "a ninth within (at its first TOKEN)". */
    private static void mostWithin() {
        for (int n = 0; n <= 7; n++) {
            goodSentence("not ".repeat(n) + "sick", n + 1);
            goodSentence("(".repeat(n) + "sick" + ")".repeat(n), n + 1);
            goodSentence("(".repeat(n) + "sick or there and sick" + ")".repeat(n), n + 3);
        }
        faultOfSentence("not ".repeat(8) + "@sick", 4);
        faultOfSentence("not ".repeat(8) + "@not sick", 4);
        faultOfSentence("(".repeat(8) + "@sick" + ")".repeat(8), 4);
        faultOfSentence("(".repeat(8) + "@(sick" + ")".repeat(9), 4);
        faultOfSentence("not(not(not(not(@sick))))", 4);
        goodSentence("not(not(not(not sick)))", 8);
        goodSentence("not(not(not(not rank<1)))", 8);
        faultOfSentence("sick or (((((((sick and not @sick)))))))", 4);
        // Side by side they are not within one another.
        goodSentence("(((((((sick)))))))or(((((((sick)))))))or sick and(sick)", 19);
        goodSentence("(((((((sick or sick and sick)))))))or not not not not not not not sick", 18);
    }

    /** "A SENTENCE is a text of at most 200 bytes". */
    private static void bytesOfSentence() {
        for (int n = 4; n <= 940; n += n > 190 && n < 210 ? 1 : 7) {
            if (n <= 200) {
                goodSentence(padded("sick", n), 1);
                goodSentence("sick" + Check.blanks(n - 4), 1);
            } else {
                faultOfSentence("sick" + Check.blanks(196) + "@" + Check.blanks(n - 200), 1);
            }
        }
        faultOfSentence(Check.blanks(197) + "sic@k", 1);
        faultOfSentence(Check.blanks(199) + "s@ick", 1);
        faultOfSentence(Check.blanks(200) + "@sick", 1);
        faultOfSentence(Check.blanks(199) + "@sicks", 1);
        faultOfSentence(Check.blanks(200) + "@sicks", 1);
        faultOfSentence(Check.blanks(193) + "ahead @ba", 3);
        faultOfSentence(Check.blanks(194) + "ahead @", 1);
        faultOfSentence(Check.blanks(194) + "ahead @ba", 1);
        faultOfSentence("sick" + Check.blanks(190) + " and  @x", 1);
        faultOfSentence(Check.blanks(191) + "not sick@)", 1);
        faultOfSentence(Check.blanks(192) + "not sick@)", 1);
    }

    private static void endsOfSentence() {
        faultOfSentence("@", 1);
        faultOfSentence("  \n @", 1);
        for (String head : new String[] {"not", "(", "(sick", "ahead", "rank", "rank <", "sick or", "sick and", "(sick or",
            "not(sick"}) {
            faultOfSentence(head + "@", 1);
            faultOfSentence(head + " \n@", 1);
        }
        goodSentence("sick \n ", 1);
        faultOfSentence("sick @there", 1);
        faultOfSentence("sick@)", 1);
        faultOfSentence("sick@;", 1);
    }

    /** "SIGN NUMBER": any of 1 to 3 digits. */
    private static void numbersOfSentence() {
        for (String what : new String[] {"rank", "load", "come", "backs", "waits", "place"}) {
            goodSentence(what + "<0", 1);
            goodSentence(what + "=999", 1);
            goodSentence(what + ">000", 1);
            faultOfSentence(what + "=@1000", 1);
            faultOfSentence(what + "=@0000", 1);
            faultOfSentence(what + "=@a", 1);
        }
        Check k = new Check("33", LAND + "chair a 0 0 9 0 2 2;");
        dueSaid(k, "rank<9", 0);
        dueSaid(k, "rank=9", 1);
        dueSaid(k, "rank>9", 0);
        dueSaid(k, "rank<10", 1);
        dueSaid(k, "rank>8", 1);
        dueSaid(k, "rank<999", 1);
        dueSaid(k, "load<0", 0);
        dueSaid(k, "load=0", 1);
        dueSaid(k, "load>0", 0);
        dueSaid(k, "load<1", 1);
        dueSaid(k, "load>999", 0);
    }

    private static void dueSaid(Check k, String sentence, int want) {
        k.due("sentence() of '" + sentence + "'", k.sentence(sentence), 1);
        k.due("said(-1) of '" + sentence + "'", k.x.said(-1), want);
    }

    private static void emptyTexts() {
        Check k = new Check("4, 29, 32");
        k.due("plan() of a new object's tape", k.x.plan(), 0);
        k.due("fault()", k.x.fault(), 0);
        k.due("sentence() of a new object's tape", k.x.sentence(), -1);
        k.due("fault()", k.x.fault(), 1);
        k.due("alleys() of an empty tape", k.x.alleys(), 0);
        k.due("fault()", k.x.fault(), 0);
        // No CHAIRS: no NAME is told.
        k.dueFault("a n;", k.plan("a n;"), 0, 3);
        k.dueFault("ahead a", k.sentence("ahead a"), 6, 3);
        k.due("sentence() without CHAIRS", k.sentence("sick"), 1);
        k.due("said(-1) without CHAIRS", k.x.said(-1), 0);
        k.due("said(0) without CHAIRS", k.x.said(0), -1);
        // What was kept is emptied by an empty text.
        k = new Check("4, 29", CHAIR);
        k.due("plan()", k.plan("a n;"), 1);
        k.due("plan() of an empty tape", k.x.plan(), 0);
        k.due("count(7)", k.x.count(7), 0);
        k.due("alleys() of an empty tape", k.x.alleys(), 0);
        for (int what = 0; what < 9; what++) {
            k.due("count(" + what + ")", k.x.count(what), 0);
        }
        k.dueChair(0, 0, Check.THROWN);
        k.dueCell(0, 0, Check.THROWN);
    }

    private static int[] seenOfAlleys(Check k, String text) {
        int[] seen = new int[2 + 9 + 80 + 36];
        int n = 0;
        seen[n++] = k.alleys(text);
        seen[n++] = k.x.fault();
        for (int what = 0; what < 9; what++) {
            seen[n++] = k.x.count(what);
        }
        for (int c = 0; c < 8; c++) {
            for (int what = 0; what < 10; what++) {
                seen[n++] = k.chair(c, what);
            }
        }
        for (int at = 0; at < 9; at++) {
            for (int what = 0; what < 4; what++) {
                seen[n++] = k.cell(at / 3 * 10 + at % 3, what);
            }
        }
        return seen;
    }

    /** What a text told is gone with the next one, whether it was taken or had a FAULT. */
    private static void earlierAlleysAreForgotten() {
        String full = LAND + "wall 1 1;stairs 0 1;wide 0 2;lane 1 0 e;chair a 0 0 9 8 2 2;chair b 2 0 7 6 0 2;start a 9;start b 8;"
            + "sick a;sick b;law rank load come;";
        String[] texts = {full, full.replace("law rank load come", "law come load rank"), "land 2 2;", "law rank load;", "",
            LAND + "chair b 1 1 0 0 1 1;", chairs(8), "land 10 10;" + many("wall", 0, 40, ""), full + "?",
            chairs(8) + "chair z", "law rank load come;law", full + "start a 3;", LAND + "lane 1 0 x;", "wall 0 0;"};
        for (String earlier : texts) {
            for (String text : texts) {
                Check k = new Check("4");
                k.alleys(earlier);
                int[] got = seenOfAlleys(k, text);
                if (k.x.fault() == 0) {
                    k.due("'" + text + "' behind '" + earlier + "'", java.util.Arrays.equals(got,
                        seenOfAlleys(new Check("4"), text)), true);
                } else {
                    Check alone = new Check("4");
                    k.due("'" + text + "' behind '" + earlier + "'", got[0], alone.alleys(text));
                    k.due("its FAULT", got[1], alone.x.fault());
                }
            }
        }
    }

    private static void earlierPlansAreForgotten() {
        Check k = new Check("29 to 31", LAND + "lane 1 1 n;chair a 0 1 0 0 2 1;lane 0 1 e;");
        k.x.on(1);
        k.x.lane(11, -1);
        k.due("plan()", k.plan("a n;a s;a n;a s;a n;"), 5);
        k.due("judge(0)", k.x.judge(0), -1);
        k.due("judged(1)", k.x.judged(1), 5);
        for (int n = 4; n >= 0; n--) {
            k.due("plan()", k.plan("a n;a s;a n;a s;".substring(0, 4 * n)), n);
            k.due("judge(0)", k.x.judge(0), -1);
            k.due("judged(1)", k.x.judged(1), n);
        }
        // One with a FAULT behind some good STEPS leaves the one that was.
        k.due("plan()", k.plan("a n;a s;"), 2);
        k.due("plan() with a FAULT", k.plan("a w;a w;a w;?"), -13);
        k.due("judge(0)", k.x.judge(0), -1);
        k.due("judged(1)", k.x.judged(1), 2);
    }

    private static void earlierSentencesAreForgotten() {
        String[] texts = {"there or sick or rank=1 and load=1", "rank=1", "not rank=1", "rank=2 or rank=1", "not not rank=1",
            "(rank=1)and(load=1)", "sick", "not there and not sick", "load=1 and(there or rank=1)"};
        for (String earlier : texts) {
            for (String text : texts) {
                Check k = new Check("32, 33", CHAIR);
                k.sentence(earlier);
                k.sentence(text);
                Check alone = new Check("32, 33", CHAIR);
                alone.sentence(text);
                k.due("said(-1) of '" + text + "' behind '" + earlier + "'", k.x.said(-1), alone.x.said(-1));
                k.sentence(earlier + " or ?");
                k.due("said(-1) of '" + text + "' behind a FAULT", k.x.said(-1), alone.x.said(-1));
            }
        }
        Check k = new Check("32, 33", CHAIR);
        dueSaid(k, "rank=1", 1);
        dueSaid(k, "rank=2", 0);
        dueSaid(k, "load=1", 1);
    }
}

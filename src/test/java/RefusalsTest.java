/**
 * Every exception that the document lists, on an empty, an ordinary and a full board: which one is thrown where several
 * could be, and that the call changes nothing. Then: what the calls that throw nothing leave alone.
 */
public final class RefusalsTest {
    private static final Twins.Maker EMPTY = CloudInterviews::new;
    private static final Twins.Maker ORDINARY = RefusalsTest::ordinary;
    private static final Twins.Maker FULL = RefusalsTest::full;

    private static final String ARGUMENT = "IllegalArgumentException";
    private static final String STATE = "IllegalStateException";
    private static final String ELEMENT = "NoSuchElementException";
    private static final String INDEX = "IndexOutOfBoundsException";
    private static final String UNSUPPORTED = "UnsupportedOperationException";

    /** On the ordinary board 2 has left and 5 comes next; on the full one 0 and 5 have left and 12 comes next. */
    private static final int[] NOBODY = {-1, 2, 5, 32, Integer.MIN_VALUE, Integer.MAX_VALUE};
    private static final int[] NOBODY_OF_THE_FULL = {-1, 0, 5, 12, Integer.MIN_VALUE, Integer.MAX_VALUE};
    private static final int[] NO_POST = {-1, 4, 6, 32, Integer.MIN_VALUE, Integer.MAX_VALUE};
    private static final int[] NO_POST_OF_THE_FULL = {-1, 6, 7, Integer.MIN_VALUE, Integer.MAX_VALUE};

    public static void main(String[] args) {
        boardsAreAsMeant();
        applicants();
        questionsOnApplicants();
        references();
        posts();
        questionsOnPosts();
        hiring();
        days();
        output();
        commands();
        undoAndSaving();
        successfulQuestions();
        successfulChanges();
        Check.finish("RefusalsTest");
    }

    /** Applicants 0, 1, 3, 4; posts 0 and 1 filled by 0 and 3; nobody waiting suits 2, and 4 suits no post. */
    private static CloudInterviews ordinary() {
        CloudInterviews x = new CloudInterviews();
        Check.outcome(() -> Check.execute(x, "day;day;leave 0"));
        Check.outcome(() -> Check.execute(x, "apply c9/9;x"));
        x.addApplicant('c', 90, 5);
        x.addApplicant('s', 80, 10);
        x.addApplicant('c', 70, 20);
        x.addApplicant('n', 60, 30);
        x.openPost('c', 50, 20, 30);
        x.openPost('n', 0, 50, 20);
        x.openPost('s', 90, 50, 99);
        x.openPost('s', 0, 45, 20);
        x.addReference(0, 1);
        x.addReference(2, 1);
        x.addReference(3, 0);
        x.hire(0, 0);
        x.hire(1, 3);
        x.save();
        x.passDays(2);
        x.removeApplicant(2);
        x.addApplicant('c', 49, 20);
        x.writePosts();
        Check.feed(x, "day;da");
        return x;
    }

    /** Ten applicants, six filled posts, nine references for one of them, and sixty characters in the input buffer. */
    private static CloudInterviews full() {
        CloudInterviews x = new CloudInterviews();
        for (int i = 0; i < 10; i++) {
            x.addApplicant("csn".charAt(i % 3), 50 + i, i);
        }
        x.removeApplicant(0);
        x.removeApplicant(5);
        x.addApplicant('s', 100, 0);
        x.addApplicant('n', 0, 50);
        for (int i = 0; i < 10; i++) {
            int from = x.applicant(i);
            Check.outcome(() -> x.addReference(from, 1));
        }
        for (int i = 0; i < 6; i++) {
            x.openPost('*', 0, 50 - i, 10 + i);
        }
        for (int i = 0; i < 5; i++) {
            x.hire(i, x.applicant(i));
        }
        x.save();
        x.hireBest(5);
        x.passDays(1);
        x.writeApplicant(1);
        Check.feed(x, "apply c9/9;match;day;day;day;day;day;day;day;day;day;day;day");
        return x;
    }

    private static void boardsAreAsMeant() {
        Check.due("the ordinary board", "0c90/7$60@0<3, 1s80/10$0@NoSuchElementException<0, 3n60/32$40@1< "
                + "4c49/20$0@NoSuchElementException< |c50/20=30<0 n0/50=20<3 s90/50=99<NoSuchElementException "
                + "s0/45=20<NoSuchElementException |2", () -> Check.digest(ordinary()));
        Check.due("its output", "0 3 - -|IndexOutOfBoundsException", () -> Check.wholeOutput(ordinary()));
        Check.due("its kept positions", "11 2", () -> {
            CloudInterviews x = ordinary();
            return x.errorPosition() + " " + x.failedCommand();
        });
        Check.due("the full board", "1 2 3 4 6 10", () -> {
            CloudInterviews x = full();
            return Check.output(x, x.writePosts());
        });
        Check.due("its counts", "10 4 6 0 9 8", () -> {
            CloudInterviews x = full();
            return x.applicantCount() + " " + x.waitingCount() + " " + x.postCount() + " " + x.vacantCount() + " "
                    + x.referencesFor(1) + " " + x.undoCount();
        });
    }

    private static void applicants() {
        for (Twins.Maker board : new Twins.Maker[] {EMPTY, ORDINARY, FULL}) {
            for (char wrong : new char[] {'*', 'C', 'b', 'd', 0, 65535}) {
                Twins.refused("2 shape " + (int) wrong, ARGUMENT, board, x -> x.addApplicant(wrong, 50, 25));
            }
            for (int wrong : new int[] {-1, 101}) {
                Twins.refused("2 whiteness " + wrong, ARGUMENT, board, x -> x.addApplicant('c', wrong, 25));
            }
            for (int wrong : new int[] {-1, 51}) {
                Twins.refused("2 rain " + wrong, ARGUMENT, board, x -> x.addApplicant('c', 50, wrong));
                Twins.refused("4 limit " + wrong, ARGUMENT, board, x -> x.rejectRainy(wrong));
            }
        }
        Twins.refused("2 the eleventh", STATE, FULL, x -> x.addApplicant('c', 50, 25));
        Twins.refused("3 of an empty board", ELEMENT, EMPTY, x -> x.removeApplicant(0));
        for (int wrong : NOBODY) {
            Twins.refused("3 id " + wrong, ELEMENT, ORDINARY, x -> x.removeApplicant(wrong));
        }
        for (int wrong : NOBODY_OF_THE_FULL) {
            Twins.refused("3 of the full board " + wrong, ELEMENT, FULL, x -> x.removeApplicant(wrong));
        }
    }

    private static void questionsOnApplicants() {
        Twins.refused("7 of an empty board", INDEX, EMPTY, x -> x.applicant(0));
        Twins.refused("15 of an empty board", INDEX, EMPTY, x -> x.applicantByScore(0));
        for (int wrong : new int[] {-1, 4, Integer.MIN_VALUE, Integer.MAX_VALUE}) {
            Twins.refused("7 position " + wrong, INDEX, ORDINARY, x -> x.applicant(wrong));
            Twins.refused("15 rank " + wrong, INDEX, ORDINARY, x -> x.applicantByScore(wrong));
        }
        for (int wrong : new int[] {-1, 10}) {
            Twins.refused("7 of the full board " + wrong, INDEX, FULL, x -> x.applicant(wrong));
            Twins.refused("15 of the full board " + wrong, INDEX, FULL, x -> x.applicantByScore(wrong));
        }
        questionsOnNobody(EMPTY, new int[] {-1, 0, 1});
        questionsOnNobody(ORDINARY, NOBODY);
        questionsOnNobody(FULL, NOBODY_OF_THE_FULL);
        Twins.refused("13 waiting", ELEMENT, ORDINARY, x -> x.postOf(1));
        Twins.refused("31 suits none", ELEMENT, ORDINARY, x -> x.favouritePost(4));
        Twins.refused("44 waiting", ELEMENT, ORDINARY, x -> x.daysUntilDismissal(1));
        Twins.refused("44 never", ELEMENT, ORDINARY, x -> x.daysUntilDismissal(3));
    }

    private static void questionsOnNobody(Twins.Maker board, int[] nobody) {
        for (int wrong : nobody) {
            Twins.refused("8 " + wrong, ELEMENT, board, x -> x.shape(wrong));
            Twins.refused("9 " + wrong, ELEMENT, board, x -> x.whiteness(wrong));
            Twins.refused("10 " + wrong, ELEMENT, board, x -> x.rain(wrong));
            Twins.refused("11 " + wrong, ELEMENT, board, x -> x.coins(wrong));
            Twins.refused("12 " + wrong, ELEMENT, board, x -> x.isHired(wrong));
            Twins.refused("13 " + wrong, ELEMENT, board, x -> x.postOf(wrong));
            Twins.refused("14 " + wrong, ELEMENT, board, x -> x.score(wrong));
            Twins.refused("19 " + wrong, ELEMENT, board, x -> x.referencesFor(wrong));
            Twins.refused("20 " + wrong, ELEMENT, board, x -> x.referencesFrom(wrong));
            Twins.refused("30 " + wrong, ELEMENT, board, x -> x.suits(wrong, 0));
            Twins.refused("30 nobody before no post " + wrong, ELEMENT, board, x -> x.suits(wrong, -1));
            Twins.refused("31 " + wrong, ELEMENT, board, x -> x.favouritePost(wrong));
            Twins.refused("44 " + wrong, ELEMENT, board, x -> x.daysUntilDismissal(wrong));
            Twins.refused("48 " + wrong, ELEMENT, board, x -> x.writeApplicant(wrong));
        }
    }

    private static void references() {
        referencesOfNobody(EMPTY, new int[] {-1, 0}, 0);
        referencesOfNobody(ORDINARY, NOBODY, 0);
        referencesOfNobody(FULL, NOBODY_OF_THE_FULL, 1);
        Twins.refused("16 for oneself", ARGUMENT, ORDINARY, x -> x.addReference(4, 4));
        Twins.refused("16 twice", STATE, ORDINARY, x -> x.addReference(0, 1));
        Twins.refused("16 for oneself, full", ARGUMENT, FULL, x -> x.addReference(1, 1));
        Twins.refused("16 a tenth", STATE, FULL, x -> x.addReference(11, 1));
        Twins.refused("17 none", ELEMENT, ORDINARY, x -> x.removeReference(4, 0));
        Twins.refused("17 only the other way", ELEMENT, ORDINARY, x -> x.removeReference(1, 0));
        Twins.refused("17 from oneself", ELEMENT, ORDINARY, x -> x.removeReference(1, 1));
        Twins.refused("17 from oneself, full", ELEMENT, FULL, x -> x.removeReference(1, 1));
    }

    private static void referencesOfNobody(Twins.Maker board, int[] nobody, int somebody) {
        for (int wrong : nobody) {
            Twins.refused("16 from " + wrong, ELEMENT, board, x -> x.addReference(wrong, somebody));
            Twins.refused("16 for " + wrong, ELEMENT, board, x -> x.addReference(somebody, wrong));
            Twins.refused("16 nobody before oneself " + wrong, ELEMENT, board, x -> x.addReference(wrong, wrong));
            Twins.refused("17 from " + wrong, ELEMENT, board, x -> x.removeReference(wrong, somebody));
            Twins.refused("17 for " + wrong, ELEMENT, board, x -> x.removeReference(somebody, wrong));
            Twins.refused("18 from " + wrong, ELEMENT, board, x -> x.hasReference(wrong, somebody));
            Twins.refused("18 for " + wrong, ELEMENT, board, x -> x.hasReference(somebody, wrong));
            Twins.refused("18 twice " + wrong, ELEMENT, board, x -> x.hasReference(wrong, wrong));
        }
    }

    private static void posts() {
        for (Twins.Maker board : new Twins.Maker[] {EMPTY, ORDINARY, FULL}) {
            for (char wrong : new char[] {'C', ')', '+', 'x', 0, 65535}) {
                Twins.refused("21 shape " + (int) wrong, ARGUMENT, board, x -> x.openPost(wrong, 50, 25, 50));
            }
            for (int wrong : new int[] {-1, 101}) {
                Twins.refused("21 lowest whiteness " + wrong, ARGUMENT, board, x -> x.openPost('*', wrong, 25, 50));
            }
            for (int wrong : new int[] {-1, 51}) {
                Twins.refused("21 highest rain " + wrong, ARGUMENT, board, x -> x.openPost('*', 50, wrong, 50));
            }
            for (int wrong : new int[] {-1, 0, 100}) {
                Twins.refused("21 wage " + wrong, ARGUMENT, board, x -> x.openPost('*', 50, 25, wrong));
            }
        }
        Twins.refused("21 the seventh", STATE, FULL, x -> x.openPost('*', 50, 25, 50));
        Twins.refused("22 of an empty board", INDEX, EMPTY, x -> x.closePost(0));
        for (int wrong : NO_POST) {
            Twins.refused("22 post " + wrong, INDEX, ORDINARY, x -> x.closePost(wrong));
        }
        for (int wrong : NO_POST_OF_THE_FULL) {
            Twins.refused("22 of the full board " + wrong, INDEX, FULL, x -> x.closePost(wrong));
        }
    }

    private static void questionsOnPosts() {
        questionsOnNoPost(EMPTY, new int[] {-1, 0, 1});
        questionsOnNoPost(ORDINARY, NO_POST);
        questionsOnNoPost(FULL, NO_POST_OF_THE_FULL);
        for (int wrong : NO_POST) {
            Twins.refused("30 post " + wrong, INDEX, ORDINARY, x -> x.suits(0, wrong));
        }
        Twins.refused("30 of the full board", INDEX, FULL, x -> x.suits(1, 6));
        Twins.refused("29 vacant", ELEMENT, ORDINARY, x -> x.filledBy(2));
        Twins.refused("32 nobody suits", ELEMENT, ORDINARY, x -> x.bestCandidate(2));
        Twins.refused("32 nobody waiting suits a filled one", ELEMENT, ORDINARY, x -> x.bestCandidate(0));
    }

    private static void questionsOnNoPost(Twins.Maker board, int[] none) {
        for (int wrong : none) {
            Twins.refused("25 " + wrong, INDEX, board, x -> x.requiredShape(wrong));
            Twins.refused("26 " + wrong, INDEX, board, x -> x.lowestWhiteness(wrong));
            Twins.refused("27 " + wrong, INDEX, board, x -> x.highestRain(wrong));
            Twins.refused("28 " + wrong, INDEX, board, x -> x.wage(wrong));
            Twins.refused("29 " + wrong, INDEX, board, x -> x.filledBy(wrong));
            Twins.refused("32 " + wrong, INDEX, board, x -> x.bestCandidate(wrong));
            Twins.refused("33 " + wrong, INDEX, board, x -> x.candidateCount(wrong));
        }
    }

    private static void hiring() {
        hiringForNoPost(EMPTY, new int[] {-1, 0}, 0);
        hiringForNoPost(ORDINARY, NO_POST, 1);
        hiringForNoPost(FULL, NO_POST_OF_THE_FULL, 7);
        for (int wrong : NOBODY) {
            Twins.refused("34 id " + wrong, ELEMENT, ORDINARY, x -> x.hire(3, wrong));
            Twins.refused("34 nobody before filled " + wrong, ELEMENT, ORDINARY, x -> x.hire(0, wrong));
        }
        Twins.refused("34 filled before unsuited", STATE, ORDINARY, x -> x.hire(0, 1));
        Twins.refused("34 hired before unsuited", STATE, ORDINARY, x -> x.hire(3, 0));
        Twins.refused("34 filled and hired", STATE, ORDINARY, x -> x.hire(0, 3));
        Twins.refused("34 filled by the same", STATE, ORDINARY, x -> x.hire(0, 0));
        Twins.refused("34 filled, suits", STATE, FULL, x -> x.hire(5, 7));
        Twins.refused("34 not white enough", UNSUPPORTED, ORDINARY, x -> x.hire(2, 1));
        Twins.refused("34 another shape", UNSUPPORTED, ORDINARY, x -> x.hire(3, 4));
        Twins.refused("35 filled before nobody suits", STATE, ORDINARY, x -> x.hireBest(0));
        Twins.refused("35 filled, somebody suits", STATE, FULL, x -> x.hireBest(0));
        Twins.refused("35 nobody suits", ELEMENT, ORDINARY, x -> x.hireBest(2));
        Twins.refused("36 vacant", STATE, ORDINARY, x -> x.dismiss(2));
        Twins.refused("36 vacant, the last", STATE, ORDINARY, x -> x.dismiss(3));
    }

    private static void hiringForNoPost(Twins.Maker board, int[] none, int somebody) {
        for (int wrong : none) {
            Twins.refused("34 post " + wrong, INDEX, board, x -> x.hire(wrong, somebody));
            Twins.refused("34 no post before nobody " + wrong, INDEX, board, x -> x.hire(wrong, -1));
            Twins.refused("35 post " + wrong, INDEX, board, x -> x.hireBest(wrong));
            Twins.refused("36 post " + wrong, INDEX, board, x -> x.dismiss(wrong));
        }
    }

    private static void days() {
        for (Twins.Maker board : new Twins.Maker[] {EMPTY, ORDINARY, FULL}) {
            for (int wrong : new int[] {-1, 0, 31, Integer.MIN_VALUE, Integer.MAX_VALUE}) {
                Twins.refused("42 days " + wrong, ARGUMENT, board, x -> x.passDays(wrong));
            }
        }
        Twins.refused("46 no applicants", "ArithmeticException", EMPTY, x -> x.meanScore());
        Twins.refused("47 no posts", "ArithmeticException", EMPTY, x -> x.filledFraction());
    }

    private static void output() {
        Twins.refused("50 empty at first", INDEX, EMPTY, x -> x.outputCharacter(0));
        for (int wrong : new int[] {-1, 7, Integer.MIN_VALUE, Integer.MAX_VALUE}) {
            Twins.refused("50 index " + wrong, INDEX, ORDINARY, x -> x.outputCharacter(wrong));
        }
    }

    private static void commands() {
        Twins.refused("52 sixty are held", STATE, FULL, x -> x.feed('d'));
        Twins.refused("53 malformed, empty", ARGUMENT, EMPTY, x -> x.execute(), "buffer", "error position");
        Twins.refused("53 malformed", ARGUMENT, ORDINARY, x -> x.execute(), "buffer", "error position");
        Twins.refused("53 malformed before failing", ARGUMENT, ORDINARY, x -> Check.execute(x, "y;close 9;"), "buffer",
                "error position");
        Twins.refused("53 a command fails", UNSUPPORTED, ORDINARY,
                x -> Check.execute(x, "y;apply c1/1;leave 0;close 0;refer 1>4;match;leave 0"), "buffer", "failed command");
        Twins.refused("53 a command fails, full", UNSUPPORTED, FULL, x -> x.execute(), "buffer", "failed command");
        Twins.refused("54 none kept", ELEMENT, EMPTY, x -> x.errorPosition());
        Twins.refused("55 none kept", ELEMENT, EMPTY, x -> x.failedCommand());
        Twins.refused("54 none kept, full", ELEMENT, FULL, x -> x.errorPosition());
        Twins.refused("55 none kept, full", ELEMENT, FULL, x -> x.failedCommand());
    }

    private static void undoAndSaving() {
        Twins.refused("56 nothing to undo", STATE, EMPTY, x -> x.undo());
        Twins.refused("59 nothing saved", STATE, EMPTY, x -> x.restore());
        Twins.Maker unsaved = () -> {
            CloudInterviews x = new CloudInterviews();
            Check.execute(x, "apply c5/5;post *0/50=9;match;day");
            x.addApplicant('s', 6, 6);
            return x;
        };
        Twins.refused("59 nothing saved, with a history", STATE, unsaved, x -> x.restore());
        Twins.Maker restored = () -> {
            CloudInterviews x = ordinary();
            x.restore();
            return x;
        };
        Twins.refused("56 nothing to undo after restore", STATE, restored, x -> x.undo());
    }

    /** Calls that are no changes, where they throw nothing. */
    private static void successfulQuestions() {
        for (Twins.Maker board : new Twins.Maker[] {EMPTY, ORDINARY, FULL}) {
            Twins.changesOnly("5, 6", board, x -> x.applicantCount() + x.waitingCount());
            Twins.changesOnly("23, 24", board, x -> x.postCount() + x.vacantCount());
            Twins.changesOnly("38", board, x -> x.mostHires());
            Twins.changesOnly("39", board, x -> x.mostHiresBySets());
            Twins.changesOnly("40", board, x -> x.blockingPairs());
            Twins.changesOnly("41", board, x -> x.blockingPairsByPreference());
            Twins.changesOnly("43, 45", board, x -> x.day() + x.dailyWages());
            Twins.changesOnly("49", board, x -> x.writePosts(), "output");
            Twins.changesOnly("51", board, x -> x.isConsistent());
            Twins.changesOnly("57", board, x -> x.undoCount());
            Twins.changesOnly("58", board, x -> x.save(), "saved");
        }
        for (Twins.Maker board : new Twins.Maker[] {ORDINARY, FULL}) {
            Twins.changesOnly("7", board, x -> x.applicant(3));
            Twins.changesOnly("8 to 11", board, x -> x.shape(1) + x.whiteness(1) + x.rain(1) + x.coins(1));
            Twins.changesOnly("12, 14", board, x -> x.isHired(3) ? x.score(3) : x.score(1));
            Twins.changesOnly("13", board, x -> x.postOf(3));
            Twins.changesOnly("15", board, x -> x.applicantByScore(3));
            Twins.changesOnly("18 to 20", board, x -> x.hasReference(3, 1) ? x.referencesFor(1) : x.referencesFrom(3));
            Twins.changesOnly("25 to 28", board,
                    x -> x.requiredShape(1) + x.lowestWhiteness(1) + x.highestRain(1) + x.wage(1));
            Twins.changesOnly("29", board, x -> x.filledBy(1));
            Twins.changesOnly("30", board, x -> x.suits(3, 3));
            Twins.changesOnly("31", board, x -> x.favouritePost(1));
            Twins.changesOnly("32", board, x -> x.bestCandidate(3));
            Twins.changesOnly("33", board, x -> x.candidateCount(3));
            Twins.changesOnly("46, 47", board, x -> x.meanScore() + x.filledFraction());
            Twins.changesOnly("48", board, x -> x.writeApplicant(1), "output");
            Twins.changesOnly("50", board, x -> x.outputCharacter(2));
        }
        Twins.changesOnly("44", ORDINARY, x -> x.daysUntilDismissal(0));
        Twins.changesOnly("52", EMPTY, x -> x.feed(';'), "buffer");
        Twins.changesOnly("52, the last one", ORDINARY, x -> {
            Check.feed(x, "y;day;day;day;day;day;day;day;day;day;day;day;day;day");
            return x.feed(';');
        }, "buffer");
        Twins.changesOnly("54, 55", ORDINARY, x -> x.errorPosition() + x.failedCommand());
    }

    /** What changes, undo and restore leave alone: the input buffer, the output, both kept positions, what is saved. */
    private static void successfulChanges() {
        String[] changed = {"board", "history", "next id"};
        Twins.changesOnly("2", ORDINARY, x -> x.addApplicant('c', 1, 1), changed);
        Twins.changesOnly("3", ORDINARY, x -> x.removeApplicant(0), changed);
        Twins.changesOnly("4", ORDINARY, x -> x.rejectRainy(9), changed);
        Twins.changesOnly("16", ORDINARY, x -> x.addReference(1, 0), changed);
        Twins.changesOnly("17", ORDINARY, x -> x.removeReference(0, 1), changed);
        Twins.changesOnly("21", ORDINARY, x -> x.openPost('*', 0, 50, 9), changed);
        Twins.changesOnly("22", ORDINARY, x -> x.closePost(0), changed);
        Twins.changesOnly("34", ORDINARY, x -> x.hire(3, 1), changed);
        Twins.changesOnly("35", ORDINARY, x -> x.hireBest(3), changed);
        Twins.changesOnly("36", ORDINARY, x -> x.dismiss(0), changed);
        Twins.changesOnly("37", ORDINARY, x -> x.match(), changed);
        Twins.changesOnly("42", ORDINARY, x -> x.passDays(3), changed);
        Twins.changesOnly("53", ORDINARY, x -> {
            x.feed('y');
            return x.execute();
        }, "board", "history", "next id", "buffer");
        Twins.changesOnly("56", ORDINARY, x -> x.undo(), changed);
        Twins.changesOnly("56, 56", FULL, x -> x.undo() + x.undo(), changed);
        Twins.changesOnly("59", ORDINARY, x -> x.restore(), changed);
        Twins.changesOnly("59, full", FULL, x -> x.restore(), changed);
    }
}

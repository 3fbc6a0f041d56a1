/** Promises 42 to 51: days, statistics and output. */
public final class DaysTest {
    public static void main(String[] args) {
        passDays();
        manyDismissals();
        daysUntilDismissal();
        dailyWages();
        means();
        writeApplicant();
        writeOneOfEach();
        writePosts();
        consistency();
        Check.finish("DaysTest");
    }

    private static void passDays() {
        CloudInterviews x = new CloudInterviews();
        for (int wrong : new int[] {0, -1, 31, Integer.MIN_VALUE, Integer.MAX_VALUE}) {
            Check.illegalArgument("42 days " + wrong, () -> x.passDays(wrong));
        }
        Check.due("43 no day has passed", 0, x::day);
        x.addApplicant('c', 50, 3);
        x.addApplicant('c', 50, 49);
        x.addApplicant('c', 50, 7);
        x.openPost('*', 0, 5, 10);
        x.openPost('*', 0, 50, 99);
        x.hire(0, 0);
        x.hire(1, 1);
        Check.due("42 one day", 0, () -> x.passDays(1));
        Check.due("42 rain of the hired", "4 50 7", () -> x.rain(0) + " " + x.rain(1) + " " + x.rain(2));
        Check.due("42 coins of the hired", "10 99 0", () -> x.coins(0) + " " + x.coins(1) + " " + x.coins(2));
        Check.due("42 dismissed when the rain is too much", 1, () -> x.passDays(30));
        Check.due("42 paid on the day of the dismissal", 30, () -> x.coins(0));
        Check.due("42 the rain stays after it", 6, () -> x.rain(0));
        Check.due("42 waits", false, () -> x.isHired(0));
        Check.due("42 not above 50", 50, () -> x.rain(1));
        Check.due("42 paid each day", 99 * 31, () -> x.coins(1));
        Check.due("43 all days", 31, x::day);
    }

    private static void manyDismissals() {
        CloudInterviews x = new CloudInterviews();
        for (int i = 0; i < 6; i++) {
            x.addApplicant('c', 50, i);
            x.openPost('*', 0, 9, i + 1);
            x.hire(i, i);
        }
        Check.due("42 none yet", 0, () -> x.passDays(4));
        Check.due("42 one a day", 2, () -> x.passDays(2));
        Check.due("42 the rest", 4, () -> x.passDays(30));
        Check.due("42 coins until dismissal", "10 5", () -> x.coins(0) + " " + x.coins(5) / 6);
    }

    private static void daysUntilDismissal() {
        CloudInterviews x = new CloudInterviews();
        x.addApplicant('c', 50, 0);
        x.addApplicant('c', 50, 49);
        x.addApplicant('c', 50, 50);
        x.openPost('*', 0, 49, 1);
        x.openPost('*', 0, 49, 1);
        x.openPost('*', 0, 50, 1);
        Check.noSuchElement("44 waiting", () -> x.daysUntilDismissal(0));
        Check.noSuchElement("44 nobody", () -> x.daysUntilDismissal(3));
        x.hire(0, 0);
        x.hire(1, 1);
        x.hire(2, 2);
        Check.due("44 the most", 50, () -> x.daysUntilDismissal(0));
        Check.due("44 the least", 1, () -> x.daysUntilDismissal(1));
        Check.noSuchElement("44 never", () -> x.daysUntilDismissal(2));
        x.passDays(30);
        Check.due("44 fewer", 20, () -> x.daysUntilDismissal(0));
        x.passDays(19);
        Check.due("44 one is left", 1, () -> x.daysUntilDismissal(0));
        Check.due("44 it comes true", 1, () -> x.passDays(1));
        Check.noSuchElement("44 dismissed", () -> x.daysUntilDismissal(0));
    }

    private static void dailyWages() {
        CloudInterviews x = new CloudInterviews();
        Check.due("45 empty", 0, x::dailyWages);
        x.addApplicant('c', 50, 0);
        x.addApplicant('c', 50, 0);
        x.openPost('*', 0, 50, 99);
        x.openPost('*', 0, 50, 98);
        x.openPost('*', 0, 50, 50);
        Check.due("45 vacant ones pay nothing", 0, x::dailyWages);
        x.hire(0, 0);
        x.hire(2, 1);
        Check.due("45", 149, x::dailyWages);
        x.closePost(0);
        Check.due("45 after closing", 50, x::dailyWages);
    }

    private static void means() {
        CloudInterviews x = new CloudInterviews();
        Check.arithmetic("46 no applicants", x::meanScore);
        Check.arithmetic("47 no posts", x::filledFraction);
        x.addApplicant('c', 0, 50);
        Check.due("46 negative", -50.0, x::meanScore);
        x.addApplicant('c', 50, 0);
        Check.due("46 zero", 0.0, x::meanScore);
        x.addApplicant('c', 1, 0);
        Check.due("46 a third", 1.0 / 3.0, x::meanScore);
        x.addReference(0, 1);
        Check.due("46 references count", 11.0 / 3.0, x::meanScore);
        x.openPost('*', 0, 50, 1);
        Check.due("47 none is filled", 0.0f, x::filledFraction);
        x.openPost('*', 0, 50, 1);
        x.openPost('*', 0, 50, 1);
        x.hire(1, 1);
        Check.due("47 a third", 1.0f / 3.0f, x::filledFraction);
        x.match();
        Check.due("47 all", 1.0f, x::filledFraction);
        x.closePost(0);
        x.closePost(0);
        x.closePost(0);
        Check.arithmetic("47 no posts again", x::filledFraction);
    }

    private static void writeApplicant() {
        CloudInterviews x = new CloudInterviews();
        Check.outOfBounds("50 empty at first", () -> x.outputCharacter(0));
        x.addApplicant('c', 90, 1);
        x.addApplicant('s', 0, 0);
        x.addApplicant('n', 100, 50);
        x.openPost('c', 0, 50, 1);
        x.openPost('c', 0, 50, 20);
        x.hire(1, 0);
        x.addReference(1, 0);
        x.addReference(2, 0);
        x.passDays(2);
        Check.due("48 the example's length", 12, () -> x.writeApplicant(0));
        Check.due("50 the example", "c90/3+2$40@1", () -> Check.output(x, 12));
        Check.due("48 plain", "s0/0", () -> Check.output(x, x.writeApplicant(1)));
        Check.outOfBounds("50 the previous output is replaced", () -> x.outputCharacter(4));
        Check.due("48 most", "n100/50", () -> Check.output(x, x.writeApplicant(2)));
        Check.noSuchElement("48 nobody", () -> x.writeApplicant(3));
        Check.due("50 stays after a refusal", "n100/50", () -> Check.output(x, 7));
        for (int wrong : new int[] {-1, 7, Integer.MIN_VALUE, Integer.MAX_VALUE}) {
            Check.outOfBounds("50 index " + wrong, () -> x.outputCharacter(wrong));
        }
        x.dismiss(1);
        Check.due("48 coins of one who waits", "c90/3+2$40", () -> Check.output(x, x.writeApplicant(0)));
        x.undo();
        Check.due("50 undo leaves the output", "c90/3+2$40", () -> Check.output(x, 10));
    }

    private static void writeOneOfEach() {
        CloudInterviews x = new CloudInterviews();
        x.addApplicant('s', 7, 0);
        x.addApplicant('n', 7, 0);
        x.addReference(1, 0);
        Check.due("48 one reference", "s7/0+1", () -> Check.output(x, x.writeApplicant(0)));
        x.openPost('s', 0, 50, 1);
        x.hire(0, 0);
        Check.due("48 hired without coins", "s7/0+1@0", () -> Check.output(x, x.writeApplicant(0)));
        x.passDays(1);
        x.removeReference(1, 0);
        Check.due("48 one coin, the first post", "s7/1$1@0", () -> Check.output(x, x.writeApplicant(0)));
    }

    private static void writePosts() {
        CloudInterviews x = new CloudInterviews();
        Check.due("49 none", 0, x::writePosts);
        x.openPost('*', 0, 50, 1);
        Check.due("49 a vacant one", "-", () -> Check.output(x, x.writePosts()));
        x.openPost('*', 0, 50, 1);
        x.openPost('*', 0, 50, 1);
        for (int i = 0; i < 10; i++) {
            x.addApplicant('c', 1, 1);
        }
        x.hire(0, 3);
        x.hire(2, 0);
        Check.due("49 the example", "3 - 0", () -> Check.output(x, x.writePosts()));
        for (int i = 4; i < 8; i++) {
            x.removeApplicant(i);
            x.addApplicant('c', 1, 1);
        }
        x.hire(1, 12);
        Check.due("49 two digits", "3 12 0", () -> Check.output(x, x.writePosts()));
        Check.due("49 the length", 6, x::writePosts);
        Check.outOfBounds("50 behind it", () -> x.outputCharacter(6));
    }

    private static void consistency() {
        CloudInterviews x = new CloudInterviews();
        Check.due("51 empty", true, x::isConsistent);
        for (int i = 0; i < 10; i++) {
            x.addApplicant("csn".charAt(i % 3), i * 10, 50 - i * 5);
        }
        for (int i = 0; i < 6; i++) {
            x.openPost("csn*".charAt(i % 4), i * 11, 30 + i * 4, 1 + i * 37 % 7);
        }
        Check.due("51 before", true, x::isConsistent);
        x.match();
        Check.due("51 matched", true, x::isConsistent);
        x.passDays(7);
        Check.due("51 after days", true, x::isConsistent);
        Check.due("51 is no change", 8, x::undoCount);
    }
}

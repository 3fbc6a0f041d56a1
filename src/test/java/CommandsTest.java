/** Promises 52 to 55: the input buffer and its commands. */
public final class CommandsTest {
    private static final String FIFTEEN_DAYS = "day;day;day;day;day;day;day;day;day;day;day;day;day;day;day";

    public static void main(String[] args) {
        feed();
        allCommands();
        numbers();
        errorPositions();
        failedCommands();
        allOrNone();
        keptPositions();
        Check.finish("CommandsTest");
    }

    private static void feed() {
        CloudInterviews x = new CloudInterviews();
        for (int i = 1; i <= 60; i++) {
            int length = i;
            Check.due("52 length", length, () -> x.feed((char) (length * 1000)));
        }
        Check.illegalState("52 full", () -> x.feed('d'));
        Check.illegalState("52 still full", () -> x.feed('d'));
        Check.illegalArgument("53 strange signs", x::execute);
        Check.due("54 strange signs", 0, x::errorPosition);
        Check.due("52 empty after it", 1, () -> x.feed('d'));
        Check.due("53 it was empty", 1, () -> Check.execute(x, "ay"));
        Check.due("53 as many commands as there can be", 15, () -> Check.execute(x, FIFTEEN_DAYS));
        Check.due("43 days have passed", 16, x::day);
        Check.due("53 it is one change", 2, x::undoCount);
        Check.illegalArgument("53 sixty signs", () -> Check.execute(x, FIFTEEN_DAYS + ";"));
        Check.due("54 sixty signs", 60, x::errorPosition);
    }

    private static void allCommands() {
        CloudInterviews x = new CloudInterviews();
        Check.due("53 apply", 3, () -> Check.execute(x, "apply c90/3;apply s100/0;apply n0/50"));
        Check.due("53 what apply did", "c90/3 s100/0 n0/50", () -> Check.output(x, x.writeApplicant(0)) + " "
                + Check.output(x, x.writeApplicant(1)) + " " + Check.output(x, x.writeApplicant(2)));
        Check.due("53 post", 4, () -> Check.execute(x, "post c90/3=5;post *0/50=99;post s1/2=3;post n0/0=1"));
        Check.due("53 what post did", "c*sn 90 50 3 1", () -> "" + x.requiredShape(0) + x.requiredShape(1)
                + x.requiredShape(2) + x.requiredShape(3) + " " + x.lowestWhiteness(0) + " " + x.highestRain(1) + " "
                + x.wage(2) + " " + x.wage(3));
        Check.due("53 hire", 1, () -> Check.execute(x, "hire 0<0"));
        Check.due("53 what hire did", 0, () -> x.filledBy(0));
        Check.due("53 refer", 2, () -> Check.execute(x, "refer 2>0;refer 1>0"));
        Check.due("53 what refer did", true, () -> x.hasReference(2, 0) && x.hasReference(1, 0) && !x.hasReference(0, 2));
        Check.due("53 dismiss", 1, () -> Check.execute(x, "dismiss 0"));
        Check.due("53 what dismiss did", false, () -> x.isHired(0));
        Check.due("53 close", 1, () -> Check.execute(x, "close 0"));
        Check.due("53 what close did", "*3", () -> "" + x.requiredShape(0) + x.postCount());
        Check.due("53 match", 1, () -> Check.execute(x, "match"));
        Check.due("53 what match did", "0 1 -", () -> Check.output(x, x.writePosts()));
        Check.due("53 day", 2, () -> Check.execute(x, "day;day"));
        Check.due("53 what day did", "5 198", () -> x.rain(0) + " " + x.coins(0));
        Check.due("53 close another one", 1, () -> Check.execute(x, "close 2"));
        Check.due("53 what that did", "0 1", () -> Check.output(x, x.writePosts()));
        Check.due("53 leave", 1, () -> Check.execute(x, "leave 0"));
        Check.due("53 what leave did", 2, x::applicantCount);
        Check.due("53 each text is one change", 8, x::undoCount);
        Check.due("53 later commands see earlier ones", 4, () -> Check.execute(x, "apply c1/1;post c0/50=7;hire 2<3;leave 3"));
    }

    private static void numbers() {
        CloudInterviews x = new CloudInterviews();
        Check.due("53 leading zeros", 2, () -> Check.execute(x, "apply c009/01;post *000/050=099"));
        Check.due("53 leading zeros count nothing", "9 1 99", () -> x.whiteness(0) + " " + x.rain(0) + " " + x.wage(0));
        Check.unsupported("53 three digits out of range", () -> Check.execute(x, "apply c101/0"));
        Check.unsupported("53 wage 0", () -> Check.execute(x, "post c1/0=0"));
        Check.unsupported("53 nobody 999", () -> Check.execute(x, "leave 999"));
        malformed(x, "apply c1000/0", 10);
        malformed(x, "apply c/0", 7);
        malformed(x, "apply c-1/0", 7);
    }

    private static void errorPositions() {
        CloudInterviews x = new CloudInterviews();
        malformed(x, "", 0);
        malformed(x, ";", 0);
        malformed(x, " day", 0);
        malformed(x, "x", 0);
        malformed(x, "Day", 0);
        malformed(x, "dAy", 1);
        malformed(x, "d", 1);
        malformed(x, "da", 2);
        malformed(x, "dax", 2);
        malformed(x, "dism", 4);
        malformed(x, "disday", 3);
        malformed(x, "dismiss", 7);
        malformed(x, "dismiss ", 8);
        malformed(x, "dismiss x", 8);
        malformed(x, "dismiss 12", 9);
        malformed(x, "day ", 3);
        malformed(x, "days", 3);
        malformed(x, "day;", 4);
        malformed(x, "day;;day", 4);
        malformed(x, "day; day", 4);
        malformed(x, "day;da", 6);
        malformed(x, "day,day", 3);
        malformed(x, "match1", 5);
        malformed(x, "matc", 4);
        malformed(x, "apply", 5);
        malformed(x, "apply ", 6);
        malformed(x, "apply c12/3;", 12);
        malformed(x, "apply ", 6);
        malformed(x, "apply c1", 8);
        malformed(x, "apply *1/1", 6);
        malformed(x, "apply 1/1", 6);
        malformed(x, "post 1/1=1", 5);
        malformed(x, "apply c", 7);
        malformed(x, "apply c1", 8);
        malformed(x, "apply c1/", 9);
        malformed(x, "apply c1/1/", 10);
        malformed(x, "apply c1/1234", 12);
        malformed(x, "applyc1/1", 5);
        malformed(x, "post x0/0=1", 5);
        malformed(x, "post *0/0", 9);
        malformed(x, "post *0/0=", 10);
        malformed(x, "post *0/0/1", 9);
        malformed(x, "post c5", 7);
        malformed(x, "close ", 6);
        malformed(x, "close 10", 7);
        malformed(x, "hire 0", 6);
        malformed(x, "hire 00<0", 6);
        malformed(x, "hire 0>0", 6);
        malformed(x, "hire 0<", 7);
        malformed(x, "hire 0<1234", 10);
        malformed(x, "refer 1<2", 7);
        malformed(x, "refer 1234>2", 9);
        malformed(x, "refer 1>", 8);
        malformed(x, "leave ", 6);
        malformed(x, "leave 1x", 7);
        malformed(x, "leave " + (char) ('1' + 256), 6);
        malformed(x, "day;leave 1;apply s5/6;post", 27);
        Check.due("53 nothing of it was done", 0, x::day);
        Check.due("53 no change", 0, x::undoCount);
    }

    private static void malformed(CloudInterviews x, String text, int position) {
        Check.illegalArgument("53 \"" + text + "\"", () -> Check.execute(x, text));
        Check.due("54 \"" + text + "\"", position, x::errorPosition);
    }

    private static void failedCommands() {
        CloudInterviews x = new CloudInterviews();
        Check.execute(x, "apply c5/5;apply s9/9;post c0/50=5");
        failing(x, "leave 2", 0);
        failing(x, "day;leave 2", 1);
        failing(x, "close 1", 0);
        failing(x, "close 9", 0);
        failing(x, "hire 1<0", 0);
        failing(x, "hire 0<2", 0);
        failing(x, "hire 0<1", 0);
        failing(x, "hire 0<0;hire 0<1", 1);
        failing(x, "dismiss 0", 0);
        failing(x, "dismiss 5", 0);
        failing(x, "match;dismiss 0;dismiss 0", 2);
        failing(x, "refer 0>0", 0);
        failing(x, "refer 0>1;refer 1>0;refer 0>1;refer 9>9", 2);
        failing(x, "refer 0>2", 0);
        failing(x, "apply c0/51", 0);
        failing(x, "post c0/0=100", 0);
        failing(x, "post c0/51=9", 0);
        failing(x, "post c101/1=9", 0);
        failing(x, "leave 0;leave 0", 1);
        for (int i = 2; i < 10; i++) {
            x.addApplicant('c', 5, 5);
        }
        failing(x, "apply c0/0", 0);
        failing(x, "leave 9;apply c0/0;apply c0/0", 2);
        Check.execute(x, "post c0/0=1;post c0/0=1;post c0/0=1;post c0/0=1");
        failing(x, "post c0/0=1;post c0/0=1", 1);
    }

    private static void failing(CloudInterviews x, String text, int command) {
        String board = Check.digest(x);
        int undoable = x.undoCount();
        Check.unsupported("53 \"" + text + "\"", () -> Check.execute(x, text));
        Check.due("55 \"" + text + "\"", command, x::failedCommand);
        Check.due("53 nothing is done by \"" + text + "\"", board, () -> Check.digest(x));
        Check.due("53 no change by \"" + text + "\"", undoable, x::undoCount);
        Check.due("53 empty after \"" + text + "\"", 1, () -> x.feed('x'));
        Check.outcome(x::execute);
    }

    private static void allOrNone() {
        CloudInterviews x = new CloudInterviews();
        Check.unsupported("53 the second fails", () -> Check.execute(x, "apply c1/1;leave 7"));
        Check.due("53 the id is not used", 0, () -> x.addApplicant('c', 1, 1));
        Check.execute(x, "apply s2/2;day");
        Check.due("56 a text is undone as a whole", 1, x::undo);
        Check.due("56 its applicant is gone", 1, x::applicantCount);
        Check.due("56 its day too", 0, x::day);
    }

    private static void keptPositions() {
        CloudInterviews x = new CloudInterviews();
        Check.noSuchElement("54 none was kept", x::errorPosition);
        Check.noSuchElement("55 none was kept", x::failedCommand);
        Check.execute(x, "day");
        Check.noSuchElement("54 no error", x::errorPosition);
        Check.noSuchElement("55 no failure", x::failedCommand);
        Check.outcome(() -> Check.execute(x, "days"));
        Check.noSuchElement("55 malformed is no failure", x::failedCommand);
        Check.outcome(() -> Check.execute(x, "day;close 0"));
        x.save();
        x.undo();
        x.restore();
        Check.execute(x, "day");
        Check.due("54 stays kept", 3, x::errorPosition);
        Check.due("55 stays kept", 1, x::failedCommand);
        x.feed('d');
        x.feed('a');
        x.undo();
        x.restore();
        Check.due("52 undo and restore leave the buffer", 3, () -> x.feed('y'));
        Check.due("53 what was fed before counts", 1, x::execute);
    }
}

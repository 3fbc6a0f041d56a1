/** Promises 52 to 55: the input buffer and its commands. */
public final class CommandsTest {
    private static final String FIFTEEN_DAYS = "day;day;day;day;day;day;day;day;day;day;day;day;day;day;day";

    private static final String[] EVERY_COMMAND = {"apply c1/2", "apply s12/3", "apply n100/4", "leave 5",
        "post *1/2=3", "post c12/34=5", "post s100/050=6", "post n7/8=9", "close 5", "hire 1<2", "dismiss 3", "refer 1>2",
        "refer 12>3", "refer 123>4", "match", "day"};

    public static void main(String[] args) {
        feed();
        sixtySigns();
        allCommands();
        numbers();
        ranges();
        beginnings();
        letterByLetter();
        everySignAtEveryPlace();
        errorPositions();
        failedCommands();
        longIds();
        allOrNone();
        leaving();
        keptPositions();
        Check.finish("CommandsTest");
    }

    private static void feed() {
        CloudInterviews x = new CloudInterviews();
        for (int i = 1; i <= 60; i++) {
            int length = i;
            Check.due("52 length", length, () -> x.feed((char) (length * 1000)));
        }
        Check.illegalState("52 full", () -> x.feed('d'));
        Check.illegalState("52 still full", () -> x.feed('d'));
        Check.illegalArgument("53 strange signs", x::execute);
        Check.due("54 strange signs", 0, x::errorPosition);
        Check.due("52 empty after it", 1, () -> x.feed('d'));
        Check.due("53 it was empty", 1, () -> Check.execute(x, "ay"));
        Check.due("53 as many commands as there can be", 15, () -> Check.execute(x, FIFTEEN_DAYS));
        Check.due("43 days have passed", 16, x::day);
        Check.due("53 it is one change", 2, x::undoCount);
    }

    /** The longest texts that the buffer holds. */
    private static void sixtySigns() {
        String text = "apply c9/9;match;" + "day;".repeat(10) + "day";
        CloudInterviews x = new CloudInterviews();
        Check.due("53 a text of sixty signs", 13, () -> Check.execute(x, text));
        Check.due("43 all of it is done", 11, x::day);
        Check.due("53 the same once more", 13, () -> Check.execute(x, text));
        Check.due("52 the sixtieth", 60, () -> {
            Check.feed(x, text.substring(1));
            return x.feed('!');
        });
        Check.illegalState("52 not one more", () -> x.feed('a'));
        Check.illegalArgument("53 the first ones are held", x::execute);
        Check.due("54 the first ones are held", 1, x::errorPosition);
        Check.illegalArgument("53 the last sign is wrong", () -> Check.execute(x, text.substring(0, 59) + "x"));
        Check.due("54 the last sign is wrong", 59, x::errorPosition);
        Check.illegalArgument("53 the last command is missing", () -> Check.execute(x, FIFTEEN_DAYS + ";"));
        Check.due("54 the last command is missing", 60, x::errorPosition);
        Check.unsupported("53 the last command fails",
                () -> Check.execute(x, "leave 00;leave 1;" + "day;".repeat(9) + "close 9"));
        Check.due("55 the last command fails", 11, x::failedCommand);
        Check.due("53 the first ones are not done", 2, x::applicantCount);
    }

    private static void allCommands() {
        CloudInterviews x = new CloudInterviews();
        Check.due("53 apply", 3, () -> Check.execute(x, "apply c90/3;apply s100/0;apply n0/50"));
        Check.due("53 what apply did", "c90/3 s100/0 n0/50", () -> Check.output(x, x.writeApplicant(0)) + " "
                + Check.output(x, x.writeApplicant(1)) + " " + Check.output(x, x.writeApplicant(2)));
        Check.due("53 post", 4, () -> Check.execute(x, "post c90/3=5;post *0/50=99;post s1/2=3;post n0/0=1"));
        Check.due("53 what post did", "c*sn 90 50 3 1", () -> "" + x.requiredShape(0) + x.requiredShape(1)
                + x.requiredShape(2) + x.requiredShape(3) + " " + x.lowestWhiteness(0) + " " + x.highestRain(1) + " "
                + x.wage(2) + " " + x.wage(3));
        Check.due("53 hire", 1, () -> Check.execute(x, "hire 0<0"));
        Check.due("53 what hire did", 0, () -> x.filledBy(0));
        Check.due("53 refer", 2, () -> Check.execute(x, "refer 2>0;refer 1>0"));
        Check.due("53 what refer did", true, () -> x.hasReference(2, 0) && x.hasReference(1, 0) && !x.hasReference(0, 2));
        Check.due("53 dismiss", 1, () -> Check.execute(x, "dismiss 0"));
        Check.due("53 what dismiss did", false, () -> x.isHired(0));
        Check.due("53 close", 1, () -> Check.execute(x, "close 0"));
        Check.due("53 what close did", "*3", () -> "" + x.requiredShape(0) + x.postCount());
        Check.due("53 match", 1, () -> Check.execute(x, "match"));
        Check.due("53 what match did", "0 1 -", () -> Check.output(x, x.writePosts()));
        Check.due("53 day", 2, () -> Check.execute(x, "day;day"));
        Check.due("53 what day did", "5 198", () -> x.rain(0) + " " + x.coins(0));
        Check.due("53 close another one", 1, () -> Check.execute(x, "close 2"));
        Check.due("53 what that did", "0 1", () -> Check.output(x, x.writePosts()));
        Check.due("53 leave", 1, () -> Check.execute(x, "leave 0"));
        Check.due("53 what leave did", 2, x::applicantCount);
        Check.due("53 each text is one change", 8, x::undoCount);
        Check.due("53 later commands see earlier ones", 4, () -> Check.execute(x, "apply c1/1;post c0/50=7;hire 2<3;leave 3"));
    }

    private static void numbers() {
        CloudInterviews x = new CloudInterviews();
        Check.due("53 leading zeros", 2, () -> Check.execute(x, "apply c009/01;post *000/050=099"));
        Check.due("53 leading zeros count nothing", "9 1 99", () -> x.whiteness(0) + " " + x.rain(0) + " " + x.wage(0));
        malformed("apply c-1/0", 7);
        malformed("apply c+1/0", 7);
        for (String form : new String[] {"apply c#/1", "apply c1/#", "leave #", "post *#/1=1", "post *1/#=1",
            "post *1/1=#", "hire 0<#", "refer #>1", "refer 1>#"}) {
            digits(form, 3);
        }
        for (String form : new String[] {"close #", "hire #<0", "dismiss #"}) {
            digits(form, 1);
        }
    }

    /** As many digits as are allowed, none, and one more, at the place of the sign #. */
    private static void digits(String form, int most) {
        int place = form.indexOf('#');
        malformed(form.replace("#", ""), place);
        for (int count = 1; count <= most; count++) {
            wellFormed(form.replace("#", "7".repeat(count)));
            wellFormed(form.replace("#", "0".repeat(count)));
            wellFormed("day;" + form.replace("#", "9".repeat(count)) + ";day");
        }
        malformed(form.replace("#", "7".repeat(most + 1)), place + most);
        malformed(form.replace("#", "0".repeat(most + 1)), place + most);
        for (char wrong : new char[] {'/', ':', 'a', '-', (char) ('1' + 256), (char) 1633}) {
            malformed(form.replace('#', wrong), place);
        }
    }

    /** The numbers that are read are those of the first to the last place, up to the limits of what they mean. */
    private static void ranges() {
        CloudInterviews x = new CloudInterviews();
        Check.due("53 the most", 2, () -> Check.execute(x, "apply c100/50;post *100/50=99"));
        Check.due("53 the least", 2, () -> Check.execute(x, "apply n0/0;post s0/0=1"));
        Check.due("53 as they are", "100/50 0/0 100/50=99 0/0=1", () -> x.whiteness(0) + "/" + x.rain(0) + " "
                + x.whiteness(1) + "/" + x.rain(1) + " " + x.lowestWhiteness(0) + "/" + x.highestRain(0) + "=" + x.wage(0)
                + " " + x.lowestWhiteness(1) + "/" + x.highestRain(1) + "=" + x.wage(1));
        failing("apply c101/50", 0);
        failing("apply c100/51", 0);
        failing("apply c999/0", 0);
        failing("post *101/50=99", 0);
        failing("post *100/51=99", 0);
        failing("post *100/50=100", 0);
        failing("post *0/0=0", 0);
        failing("leave 999", 0);
    }

    /** A text that is cut short ends too early at its length; a sign that is in no text is the first wrong one. */
    private static void beginnings() {
        for (String text : EVERY_COMMAND) {
            for (int length = 0; length < text.length(); length++) {
                String beginning = text.substring(0, length);
                malformed(beginning, length);
                malformed(beginning + "!", length);
                malformed("day;" + beginning, 4 + length);
                malformed("leave 123;" + beginning + "!", 10 + length);
            }
            wellFormed(text);
            wellFormed("leave 123;" + text + ";day");
            malformed(text + "!", text.length());
            malformed(text + " ", text.length());
            malformed(text + ";", text.length() + 1);
            malformed(text + ";;", text.length() + 1);
            malformed(text + "; " + text, text.length() + 1);
        }
    }

    private static void letterByLetter() {
        for (String text : EVERY_COMMAND) {
            int end = text.indexOf(' ') < 0 ? text.length() : text.indexOf(' ');
            for (int i = 0; i < end; i++) {
                char capital = Character.toUpperCase(text.charAt(i));
                malformed(text.substring(0, i) + capital + text.substring(i + 1), i);
            }
            malformed(text.substring(0, end) + "s", end);
            malformed(" " + text, 0);
        }
        malformed("apply C1/1", 6);
        malformed("post S1/1=1", 5);
    }

    /** Every sign at every place of every command, compared with what a regular expression makes of it. */
    private static void everySignAtEveryPlace() {
        for (String text : EVERY_COMMAND) {
            for (int place = 0; place < text.length(); place++) {
                for (char sign = 0; sign < 300; sign++) {
                    String changed = text.substring(0, place) + sign + text.substring(place + 1);
                    NaiveBoard naive = new NaiveBoard();
                    for (int i = 0; i < changed.length(); i++) {
                        naive.feed(changed.charAt(i));
                    }
                    String due = Check.outcome(naive::execute);
                    CloudInterviews x = new CloudInterviews();
                    Check.due("53 \"" + changed + "\"", due, () -> Check.execute(x, changed));
                    Check.due("54 \"" + changed + "\"", Check.outcome(naive::errorPosition), x::errorPosition);
                }
            }
        }
    }

    private static void errorPositions() {
        malformed("", 0);
        malformed(";", 0);
        malformed(" day", 0);
        malformed("x", 0);
        malformed("d", 1);
        malformed("dax", 2);
        malformed("dism", 4);
        malformed("disday", 3);
        malformed("dayday", 3);
        malformed("day,day", 3);
        malformed("matchday", 5);
        malformed("match1", 5);
        malformed("apply 1/1", 6);
        malformed("apply *1/1", 6);
        malformed("apply c1/1/", 10);
        malformed("apply c1=1", 8);
        malformed("apply  c1/1", 6);
        malformed("applyc1/1", 5);
        malformed("post 1/1=1", 5);
        malformed("post x0/0=1", 5);
        malformed("post *0/0/1", 9);
        malformed("post *0=0/1", 7);
        malformed("post c5", 7);
        malformed("hire 0>0", 6);
        malformed("hire 0<0<0", 8);
        malformed("refer 1<2", 7);
        malformed("leave -1", 6);
        malformed("leave 1x", 7);
        malformed("day;leave 1;apply s5/6;post", 27);
        malformed("leave 1;leave 22;leave 333;leave 4444", 36);
        textCutShortAfterALongerOne();
    }

    /** What an earlier text left in the input buffer continues nothing. */
    private static void textCutShortAfterALongerOne() {
        CloudInterviews x = new CloudInterviews();
        Check.illegalArgument("53 the longer one", () -> Check.execute(x, "apply c12/3;"));
        Check.due("54 the longer one", 12, x::errorPosition);
        Check.illegalArgument("53 cut short", () -> Check.execute(x, "apply "));
        Check.due("54 cut short", 6, x::errorPosition);
        Check.illegalArgument("53 cut short in a number", () -> Check.execute(x, "apply c1"));
        Check.due("54 cut short in a number", 8, x::errorPosition);
        Check.illegalArgument("53 nothing at all", x::execute);
        Check.due("54 nothing at all", 0, x::errorPosition);
        Check.due("53 a number cut short", 1, () -> Check.execute(x, "apply c1/1"));
        Check.due("10 the number cut short", 1, () -> x.rain(0));
    }

    private static void malformed(String text, int position) {
        CloudInterviews x = new CloudInterviews();
        Check.illegalArgument("53 \"" + text + "\"", () -> Check.execute(x, text));
        Check.due("54 \"" + text + "\"", position, x::errorPosition);
        Check.noSuchElement("55 no command failed in \"" + text + "\"", x::failedCommand);
        Check.due("53 nothing is done by \"" + text + "\"", "||0", () -> Check.digest(x));
        Check.due("57 no change by \"" + text + "\"", 0, x::undoCount);
        Check.due("53 empty after \"" + text + "\"", 1, () -> x.feed('d'));
        Check.due("53 nothing stayed of \"" + text + "\"", 1, () -> Check.execute(x, "ay"));
    }

    private static void wellFormed(String text) {
        CloudInterviews x = new CloudInterviews();
        String answer = Check.outcome(() -> Check.execute(x, text));
        Check.due("53 \"" + text + "\" is well-formed", false, () -> answer.equals("IllegalArgumentException"));
        Check.noSuchElement("54 no error in \"" + text + "\"", x::errorPosition);
        Check.due("53 empty after \"" + text + "\"", 1, () -> x.feed('d'));
    }

    private static void failedCommands() {
        failing("leave 2", 0);
        failing("day;leave 2", 1);
        failing("close 1", 0);
        failing("close 9", 0);
        failing("hire 1<0", 0);
        failing("hire 0<2", 0);
        failing("hire 0<1", 0);
        failing("hire 0<0;hire 0<1", 1);
        failing("hire 0<0;post *0/50=1;hire 1<0", 2);
        failing("dismiss 0", 0);
        failing("dismiss 5", 0);
        failing("match;dismiss 0;dismiss 0", 2);
        failing("refer 0>0", 0);
        failing("refer 0>1;refer 1>0;refer 0>1;refer 9>9", 2);
        failing("refer 0>2", 0);
        failing("refer 2>0", 0);
        failing("apply c0/51", 0);
        failing("post c0/0=100", 0);
        failing("post c0/51=9", 0);
        failing("post c101/1=9", 0);
        failing("leave 0;leave 0", 1);
        failing("day;day;day;day;day;day;day;day;day;day;day;day;day;leave 9", 13);
        fullBoard();
    }

    /** A board with two applicants and one post. */
    private static CloudInterviews board() {
        CloudInterviews x = new CloudInterviews();
        Check.execute(x, "apply c5/5;apply s9/9;post c0/50=5");
        return x;
    }

    private static void failing(String text, int command) {
        failing(board(), text, command);
    }

    private static void failing(CloudInterviews x, String text, int command) {
        String board = Check.digest(x);
        int undoable = x.undoCount();
        Check.unsupported("53 \"" + text + "\"", () -> Check.execute(x, text));
        Check.due("55 \"" + text + "\"", command, x::failedCommand);
        Check.noSuchElement("54 no error in \"" + text + "\"", x::errorPosition);
        Check.due("53 nothing is done by \"" + text + "\"", board, () -> Check.digest(x));
        Check.due("57 no change by \"" + text + "\"", undoable, x::undoCount);
        Check.due("53 empty after \"" + text + "\"", 1, () -> x.feed('d'));
        Check.due("53 nothing stayed of \"" + text + "\"", 1, () -> Check.execute(x, "ay"));
    }

    private static void fullBoard() {
        CloudInterviews x = board();
        for (int i = 2; i < 9; i++) {
            x.addApplicant('c', 5, 5);
        }
        Check.due("53 the tenth", 1, () -> Check.execute(x, "apply c0/0"));
        failing(x, "apply c0/0", 0);
        CloudInterviews y = board();
        for (int i = 2; i < 10; i++) {
            y.addApplicant('c', 5, 5);
        }
        failing(y, "leave 9;apply c0/0;apply c0/0", 2);
        CloudInterviews z = board();
        Check.due("53 the fifth post", 4, () -> Check.execute(z, "post c0/0=1;post c0/0=1;post c0/0=1;post c0/0=1"));
        failing(z, "post c0/0=1;post c0/0=1", 1);
        Check.due("53 the sixth post", 1, () -> Check.execute(z, "post c0/0=1"));
        Check.due("53 close the last", 1, () -> Check.execute(z, "close 5"));
    }

    /** Applicants whose ids have three digits. */
    private static void longIds() {
        CloudInterviews x = new CloudInterviews();
        for (int i = 0; i < 99; i++) {
            x.addApplicant('c', i, 1);
            x.rejectRainy(0);
        }
        Check.due("53 99 and 100", 2, () -> Check.execute(x, "apply c50/5;apply s60/6"));
        Check.due("53 refer", 2, () -> Check.execute(x, "refer 100>099;refer 99>100"));
        Check.due("53 what refer did", true, () -> x.hasReference(100, 99) && x.hasReference(99, 100));
        Check.due("53 hire", 3, () -> Check.execute(x, "post *0/50=1;post *0/50=1;hire 1<100"));
        Check.due("53 what hire did", "- 100", () -> Check.output(x, x.writePosts()));
        Check.unsupported("53 nobody 101", () -> Check.execute(x, "leave 101"));
        Check.unsupported("53 nobody 10", () -> Check.execute(x, "leave 10"));
        Check.due("53 leave", 1, () -> Check.execute(x, "leave 100"));
        Check.due("53 who is left", "1 99", () -> x.applicantCount() + " " + x.applicant(0));
    }

    private static void allOrNone() {
        CloudInterviews x = new CloudInterviews();
        Check.unsupported("53 the second fails", () -> Check.execute(x, "apply c1/1;leave 7"));
        Check.due("53 the id is not used", 0, () -> x.addApplicant('c', 1, 1));
        Check.execute(x, "apply s2/2;day");
        Check.due("56 a text is undone as a whole", 1, x::undo);
        Check.due("56 its applicant is gone", 1, x::applicantCount);
        Check.due("56 its day too", 0, x::day);
    }

    /** Who leaves or is dismissed by a text leaves the same behind as by a call. */
    private static void leaving() {
        CloudInterviews x = new CloudInterviews();
        Check.execute(x, "apply c1/1;apply s2/2;apply n3/3;post *0/50=9;post *0/50=8");
        Check.execute(x, "refer 1>0;refer 0>2;refer 2>0;hire 0<1;hire 1<2;leave 1");
        Check.due("53 the post of who left is vacant", "- 2", () -> Check.output(x, x.writePosts()));
        Check.due("53 the reference of who left is lost", "1 1", () -> x.referencesFor(0) + " " + x.referencesFor(2));
        Check.due("53 close a vacant one", 1, () -> Check.execute(x, "close 0"));
        Check.due("53 the later index decreases", 0, () -> x.postOf(2));
        Check.due("53 close a filled one", 1, () -> Check.execute(x, "close 0"));
        Check.due("53 the applicant waits", false, () -> x.isHired(2));
        Check.unsupported("53 nothing is left to close", () -> Check.execute(x, "close 0"));
        Check.due("53 the id is not given again", 3, () -> {
            Check.execute(x, "apply c4/4");
            return x.applicant(2);
        });
    }

    private static void keptPositions() {
        theLastOnes();
        CloudInterviews x = new CloudInterviews();
        Check.noSuchElement("54 none was kept", x::errorPosition);
        Check.noSuchElement("55 none was kept", x::failedCommand);
        Check.execute(x, "day");
        Check.noSuchElement("54 no error", x::errorPosition);
        Check.noSuchElement("55 no failure", x::failedCommand);
        Check.outcome(() -> Check.execute(x, "days"));
        Check.noSuchElement("55 malformed is no failure", x::failedCommand);
        Check.outcome(() -> Check.execute(x, "day;close 0"));
        x.save();
        x.undo();
        x.restore();
        Check.execute(x, "day");
        Check.due("54 stays kept", 3, x::errorPosition);
        Check.due("55 stays kept", 1, x::failedCommand);
        x.feed('d');
        x.feed('a');
        x.undo();
        x.restore();
        Check.due("52 undo and restore leave the buffer", 3, () -> x.feed('y'));
        Check.due("53 what was fed before counts", 1, x::execute);
    }

    private static void theLastOnes() {
        CloudInterviews x = new CloudInterviews();
        Check.outcome(() -> Check.execute(x, "day;day;days"));
        Check.outcome(() -> Check.execute(x, "day;day;close 0"));
        Check.due("54 the first one", 11, x::errorPosition);
        Check.due("55 the first one", 2, x::failedCommand);
        Check.outcome(() -> Check.execute(x, "Day;close 0"));
        Check.due("54 the last one", 0, x::errorPosition);
        Check.due("55 malformed comes before failing", 2, x::failedCommand);
        Check.outcome(() -> Check.execute(x, "close 0;day"));
        Check.due("55 the last one", 0, x::failedCommand);
        Check.due("54 failing keeps no error position", 0, x::errorPosition);
        Check.outcome(() -> Check.execute(x, "close 0;da"));
        Check.due("54 an error behind a command that would fail", 10, x::errorPosition);
    }
}

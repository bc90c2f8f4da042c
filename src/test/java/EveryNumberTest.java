import java.util.List;

/** Promise 3: each U32 that a module may have keeps to what is said of numbers, wherever it stands. */
public final class EveryNumberTest {
    public static void main(String[] args) {
        Template plain = new Template(Template.FULL);
        List<String> due = Answers.of(read(plain, 0, -1));
        Check.due("more than a hundred numbers", plain.numbers() > 100 ? 1 : 0, 1);
        for (int number = 0; number < plain.numbers(); number++) {
            inFiveBytes(number, plain, due);
            Template tooGreat = new Template(Template.FULL, number, Template.Form.TOO_GREAT);
            read(tooGreat, 4, tooGreat.mark() + 4);
            Template goesOn = new Template(Template.FULL, number, Template.Form.GOES_ON);
            read(goesOn, 4, goesOn.mark() + 4);
            endsInTheNumber(goesOn);
        }
        Check.finish();
    }

    private static ModuleBytes read(Template template, int fault, int place) {
        ModuleBytes x = new ModuleBytes();
        Check.due("end of " + template.text(), Check.read(x, template.text()), fault);
        Check.due("place after " + template.text(), x.place(), place);
        return x;
    }

    /** A number may be longer than it must: the module is the same one, with what is behind the number moved. */
    private static void inFiveBytes(int number, Template plain, List<String> due) {
        Template longer = new Template(Template.FULL, number, Template.Form.FIVE_BYTES);
        int moved = longer.length() - plain.length();
        Answers.compare("number " + number + " in five bytes", Answers.of(read(longer, 0, -1), longer.mark(), moved), due);
    }

    /** The bytes end within the number: of a part's length it is the module that ends, else a section that is too long. */
    private static void endsInTheNumber(Template template) {
        for (int more = 1; more < 5; more++) {
            int length = template.mark() + more;
            ModuleBytes x = new ModuleBytes();
            int fault = Check.read(x, template.text(length));
            int section = Check.openSection(template.text(length));
            Check.due("end of " + length + " bytes", fault, section < 0 ? 1 : 2);
            Check.due("place of " + length + " bytes", x.place(), section < 0 ? length : section);
        }
    }
}

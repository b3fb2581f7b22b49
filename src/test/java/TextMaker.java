import java.util.Random;

/** Makes texts by the grammar, with blanks here and there, some of them spoilt. */
final class TextMaker {
    private final Random dice;
    private final StringBuilder out = new StringBuilder();
    private String names = "hnl";

    TextMaker(Random dice) {
        this.dice = dice;
    }

    String text() {
        blanks();
        int key = dice.nextInt(3);
        names = new String[] {"hnl", "hp", "py"}[key];
        word(new String[] {"cost", "walk", "grow"}[key]);
        joined(0, dice.nextInt(5) == 0 ? 9 : dice.nextInt(4));
        blanks();
        if (dice.nextInt(3) == 0) {
            spoil();
        }
        return out.toString();
    }

    private void spoil() {
        int many = 1 + dice.nextInt(2);
        for (int i = 0; i < many && out.length() > 0; i++) {
            int at = dice.nextInt(out.length());
            String signs = "|&<=>+-*/()! hnlpy0123456789qz.ACZ\n\t`{@[/:~" + (char) 0 + (char) 128 + (char) 255;
            char c = signs.charAt(dice.nextInt(signs.length()));
            switch (dice.nextInt(4)) {
                case 0:
                    out.deleteCharAt(at);
                    break;
                case 1:
                    out.insert(at, c);
                    break;
                case 2:
                    out.setCharAt(at, c);
                    break;
                default:
                    out.setLength(at);
            }
        }
    }

    private void blanks() {
        while (dice.nextInt(5) == 0) {
            out.append(' ');
        }
    }

    private void word(String w) {
        blanks();
        char last = out.length() == 0 ? ' ' : out.charAt(out.length() - 1);
        if (Character.isLetterOrDigit(last) && Character.isLetterOrDigit(w.charAt(0))) {
            out.append(' ');
        }
        out.append(w);
    }

    private void joined(int level, int deep) {
        if (level == 5) {
            piece(deep);
            return;
        }
        joined(level + 1, deep);
        String signs = new String[] {"|", "&", "<=>", "+-", "*/"}[level];
        while (dice.nextInt(level < 3 ? 8 : 4) == 0) {
            word(String.valueOf(signs.charAt(dice.nextInt(signs.length()))));
            joined(level + 1, deep);
            if (level == 2) {
                return;
            }
        }
    }

    private void piece(int deep) {
        int of = dice.nextInt(deep > 5 ? 2 : 6);
        if (deep > 0 && of == 0) {
            word("(");
            joined(0, deep - 1);
            word(")");
        } else if (deep > 0 && of == 1) {
            word("!");
            piece(deep - (dice.nextInt(3) == 0 ? 1 : 0));
        } else if (dice.nextBoolean()) {
            word(String.valueOf(names.charAt(dice.nextInt(names.length()))));
        } else {
            word(String.valueOf(dice.nextInt(dice.nextInt(4) == 0 ? 10000 : 12)));
        }
    }
}

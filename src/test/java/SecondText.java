import java.util.ArrayList;
import java.util.List;

/** A text read byte by byte: what may stand next is told by a state alone. */
final class SecondText {
    /** What a text waits for. */
    private enum Wait { CLAUSE_OR_END, CLAUSE, NUMBER, DIGIT, MORE_DIGITS, BEHIND_NUMBER, LETTER }

    final List<SecondInk> inks = new ArrayList<>();
    int fault = -1;

    private Wait wait = Wait.CLAUSE_OR_END;
    /** The letter whose numbers are read, those that there are and the one that is read. */
    private char owner;
    private final List<Integer> numbers = new ArrayList<>();
    private String number = "";
    private String letters = "";
    private final SecondInk[] told = new SecondInk[4];
    private int clauses;

    SecondText(String text) {
        for (int i = 0; i < text.length(); i++) {
            char sign = text.charAt(i);
            // a number is over with the first byte that is no digit: that is when its bounds are looked at
            if (wait == Wait.MORE_DIGITS && (sign < '0' || sign > '9') && !finishNumber()) {
                fault = i - 1;
                return;
            }
            if (!take(sign)) {
                fault = i;
                return;
            }
        }
        if (wait == Wait.MORE_DIGITS && !finishNumber()) {
            fault = text.length() - 1;
            return;
        }
        boolean isWhole = wait == Wait.CLAUSE_OR_END || wait == Wait.LETTER || wait == Wait.BEHIND_NUMBER && isEnough();
        if (!isWhole) {
            fault = text.length();
            return;
        }
        for (int i = 0; i < clauses; i++) {
            inks.add(told[i]);
        }
    }

    private boolean take(char sign) {
        boolean isDigit = sign >= '0' && sign <= '9';
        switch (wait) {
            case CLAUSE_OR_END:
            case CLAUSE:
                return sign == ' ' || sign == 's' && beginClause();
            case NUMBER:
                if (sign == ' ') {
                    return true;
                }
                if (sign == '-' && owner != 't') {
                    number = "-";
                    wait = Wait.DIGIT;
                    return true;
                }
                return isDigit && takeDigit(sign);
            case DIGIT:
                return isDigit && takeDigit(sign);
            case MORE_DIGITS:
                return takeDigit(sign);
            case BEHIND_NUMBER:
                if (sign == ',' && isMore()) {
                    wait = Wait.NUMBER;
                    return true;
                }
                return sign == ' ' || isEnough() && takeLetter(sign);
            default:
                return sign == ' ' || takeLetter(sign);
        }
    }

    private boolean beginClause() {
        if (clauses == 4) {
            return false;
        }
        clauses++;
        letters = "";
        begin('s');
        return true;
    }

    private void begin(char letter) {
        owner = letter;
        numbers.clear();
        number = "";
        wait = Wait.NUMBER;
    }

    private boolean takeDigit(char sign) {
        int digits = number.replace("-", "").length();
        if (digits == (owner == 't' ? 3 : 2)) {
            return false;
        }
        number += sign;
        wait = Wait.MORE_DIGITS;
        return true;
    }

    /** False: it is out of bounds. */
    private boolean finishNumber() {
        int value = Integer.parseInt(number);
        int most = owner == 's' ? 12 : owner == 't' ? 100 : 99;
        if (Math.abs(value) > most) {
            return false;
        }
        numbers.add(value);
        number = "";
        wait = Wait.BEHIND_NUMBER;
        tell();
        return true;
    }

    private boolean isMore() {
        return numbers.size() < (owner == 's' ? 4 : owner == 't' ? 1 : 2);
    }

    private boolean isEnough() {
        return owner == 's' ? numbers.size() == 2 || numbers.size() == 4 : !isMore();
    }

    private void tell() {
        if (!isEnough()) {
            return;
        }
        SecondInk ink = told[clauses - 1];
        int first = numbers.get(0);
        if (owner == 't') {
            ink.tone = first;
        } else if (owner == 'o') {
            ink.x = first;
            ink.y = numbers.get(1);
        } else {
            int second = numbers.get(1);
            boolean isSquare = numbers.size() == 2;
            told[clauses - 1] = new SecondInk(first, second, isSquare ? -second : numbers.get(2),
                    isSquare ? first : numbers.get(3));
        }
    }

    private boolean takeLetter(char sign) {
        if (sign == ';') {
            wait = Wait.CLAUSE;
            return true;
        }
        boolean isSpot = "rdl".indexOf(sign) >= 0;
        String kind = isSpot ? "r" : String.valueOf(sign);
        if (!isSpot && sign != 't' && sign != 'o' || letters.contains(kind)) {
            return false;
        }
        letters += kind;
        if (isSpot) {
            told[clauses - 1].spot = "rdl".indexOf(sign);
            wait = Wait.LETTER;
        } else {
            begin(sign);
        }
        return true;
    }
}

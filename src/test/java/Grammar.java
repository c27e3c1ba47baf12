import java.util.ArrayDeque;
import java.util.Deque;

/**
 * The three texts of the document read a second time, sign by sign with a state and a stack (the class reads
 * them by methods that call one another): the answer due to line, land and law.
 */
final class Grammar {
    private static final char END = '\uffff';

    private Grammar() {
    }

    private static char signAt(String text, int i) {
        return i < text.length() ? text.charAt(i) : END;
    }

    private static int fault(int number, int place) {
        return -1000 * number - place;
    }

    private static boolean isDigit(char sign) {
        return sign >= '0' && sign <= '9';
    }

    static int line(String text) {
        Deque<int[]> rounds = new ArrayDeque<>();
        int steps = 0;
        int here = 0;
        int start = -1;
        int times = 1;
        for (int i = 0; ; i++) {
            char sign = signAt(text, i);
            int first = start >= 0 ? start : i;
            if (sign >= '2' && sign <= '9' && start < 0) {
                start = i;
                times = sign - '0';
                continue;
            }
            if ("urdl.".indexOf(sign) >= 0) {
                steps += times;
                here++;
            } else if (sign == '(') {
                if (rounds.size() == 2) {
                    return fault(5, i);
                }
                rounds.push(new int[] {first, times, steps, here});
                here = 0;
            } else if (sign == ')' && !rounds.isEmpty() && start < 0 && here > 0) {
                int[] round = rounds.pop();
                first = round[0];
                steps = round[2] + round[1] * (steps - round[2]);
                here = round[3] + 1;
            } else if (sign == END && rounds.isEmpty() && start < 0 && here > 0) {
                return steps;
            } else {
                return fault(1, i);
            }
            if (steps > 96) {
                return fault(6, first);
            }
            start = -1;
            times = 1;
        }
    }

    static int land(String text) {
        int[] numbers = new int[5];
        int part = -1;
        int start = 0;
        int lines = 0;
        boolean isField = false;
        for (int i = 0; ; i++) {
            char sign = signAt(text, i);
            if (part < 0) {
                isField = sign >= 'a' && sign <= 'h';
                if (!isField && sign != '~') {
                    return fault(1, i);
                }
                if (lines == 12) {
                    return fault(4, i);
                }
                lines++;
                part = 0;
                start = i + 1;
                numbers[0] = 0;
            } else if (isDigit(sign)) {
                if (i - start == 2) {
                    return fault(2, i);
                }
                numbers[part] = 10 * numbers[part] + sign - '0';
            } else {
                if (i == start) {
                    return fault(1, i);
                }
                if (isBeyond(numbers, part)) {
                    return fault(3, start);
                }
                boolean isLast = part == (isField ? 4 : 3);
                if (isLast && sign == END) {
                    return lines;
                }
                if (sign != (isLast ? ';' : ",:x=".charAt(part))) {
                    return fault(1, i);
                }
                part = isLast ? -1 : part + 1;
                start = i + 1;
                if (part >= 0) {
                    numbers[part] = 0;
                }
            }
        }
    }

    private static boolean isBeyond(int[] numbers, int part) {
        switch (part) {
            case 0:
                return numbers[0] > 15;
            case 1:
                return numbers[1] > 11;
            case 2:
                return numbers[2] == 0 || numbers[0] + numbers[2] > 16;
            case 3:
                return numbers[3] == 0 || numbers[1] + numbers[3] > 12;
            default:
                return false;
        }
    }

    private enum State { RULE, OPENING, TEST, FACTOR, NUMBER, BEHIND, BEHIND_TEST, BEHIND_RULE }

    private enum Phase { WORTH, LEFT, RIGHT }

    static int law(String text) {
        return new LawText(text).read();
    }

    /** One reading of a law: what may come next is told by the state, the phase and what is open. */
    private static final class LawText {
        private final String text;
        private final Deque<Character> open = new ArrayDeque<>();
        private State state = State.RULE;
        private Phase phase = Phase.WORTH;
        private int digits = 0;
        private int rules = 0;
        private int answer = 0;

        private LawText(String text) {
            this.text = text;
        }

        private int read() {
            for (int i = 0; answer == 0; i++) {
                take(signAt(text, i), i);
            }
            return answer;
        }

        private void take(char sign, int i) {
            if (state == State.NUMBER && isDigit(sign)) {
                digits++;
                if (digits > 5) {
                    answer = fault(2, i);
                }
                return;
            }
            if (state == State.NUMBER) {
                state = State.BEHIND;
            }
            if (state == State.BEHIND && phase == Phase.RIGHT && "+-*/%]".indexOf(sign) < 0 && !isOpen('[')) {
                endTest();
            }
            if (state == State.TEST && sign != '!' && sign != '(') {
                phase = Phase.LEFT;
                state = State.FACTOR;
            }
            switch (state) {
                case RULE:
                    takeLetter(sign, i);
                    break;
                case OPENING:
                    takeOpening(sign, i, "(", State.TEST);
                    break;
                case TEST:
                    takeOpening(sign, i, "(!", State.TEST);
                    break;
                case FACTOR:
                    takeFactor(sign, i);
                    break;
                case BEHIND:
                    takeBehind(sign, i);
                    break;
                case BEHIND_TEST:
                    takeBehindTest(sign, i);
                    break;
                default:
                    if (sign == END) {
                        answer = rules;
                    } else if (sign == ';') {
                        state = State.RULE;
                    } else {
                        answer = fault(1, i);
                    }
                    break;
            }
        }

        private boolean isOpen(char sign) {
            return !open.isEmpty() && open.peek() == sign;
        }

        private void endTest() {
            while (isOpen('!')) {
                open.pop();
            }
            state = State.BEHIND_TEST;
        }

        private void takeLetter(char sign, int i) {
            if ("erx".indexOf(sign) < 0) {
                answer = fault(1, i);
            } else if (rules == 16) {
                answer = fault(4, i);
            } else {
                phase = Phase.WORTH;
                state = sign == 'x' ? State.OPENING : State.FACTOR;
            }
        }

        private void takeOpening(char sign, int i, String signs, State next) {
            if (signs.indexOf(sign) < 0) {
                answer = fault(1, i);
            } else if (open.size() == 6) {
                answer = fault(5, i);
            } else {
                open.push(sign);
                state = next;
            }
        }

        private void takeFactor(char sign, int i) {
            if (isDigit(sign)) {
                digits = 1;
                state = State.NUMBER;
            } else if ("hcasgfnt".indexOf(sign) >= 0) {
                state = State.BEHIND;
            } else {
                takeOpening(sign, i, "[", State.FACTOR);
            }
        }

        private void takeBehind(char sign, int i) {
            if ("+-*/%".indexOf(sign) >= 0) {
                state = State.FACTOR;
            } else if (sign == ']' && isOpen('[')) {
                open.pop();
            } else if (isOpen('[')) {
                answer = fault(1, i);
            } else if (phase == Phase.WORTH) {
                takeOpening(sign, i, "(", State.TEST);
            } else if (phase == Phase.LEFT && "<>=".indexOf(sign) >= 0) {
                phase = Phase.RIGHT;
                state = State.FACTOR;
            } else {
                answer = fault(1, i);
            }
        }

        private void takeBehindTest(char sign, int i) {
            if (sign == '&' || sign == '|') {
                state = State.TEST;
            } else if (sign == ')') {
                open.pop();
                if (open.isEmpty()) {
                    rules++;
                    state = State.BEHIND_RULE;
                } else {
                    endTest();
                }
            } else {
                answer = fault(1, i);
            }
        }
    }
}

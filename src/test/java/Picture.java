/** A text of all that can be asked of an object, to see whether two are alike. */
final class Picture {
    private Picture() {
    }

    static String of(Polderwardens x) {
        StringBuilder text = new StringBuilder();
        text.append("hour ").append(x.hour()).append(" money ").append(x.money());
        text.append(" sea ").append(x.level(20)).append(" river ").append(x.level(21));
        for (int what = 0; what < 4; what++) {
            text.append(" ledger ").append(x.ledger(what));
        }
        addBasins(text, x);
        addWays(text, x);
        for (int crew = 0; crew < 3; crew++) {
            text.append(" crew ").append(x.crew(crew, 0)).append(' ').append(x.crew(crew, 1));
            text.append(' ').append(x.crew(crew, 2));
        }
        addOutside(text, x);
        return text.append(" digest ").append(x.digest()).toString();
    }

    private static void addBasins(StringBuilder text, Polderwardens x) {
        for (int i = 0; i < 8; i++) {
            try {
                text.append(" basin ").append(x.water(i)).append(' ').append(x.level(i));
                text.append(' ').append(x.harm(i)).append(' ').append(x.share(98765, i));
            } catch (IndexOutOfBoundsException none) {
                return;
            }
        }
    }

    private static void addWays(StringBuilder text, Polderwardens x) {
        for (int i = 0; i < 8; i++) {
            try {
                text.append(" gate ").append(x.isOpen(i));
            } catch (IndexOutOfBoundsException none) {
                break;
            }
        }
        for (int i = 0; i < 8; i++) {
            try {
                text.append(" pump ").append(x.pump(i, 0)).append(' ').append(x.pump(i, 1));
                text.append(' ').append(x.pump(i, 2));
            } catch (IndexOutOfBoundsException none) {
                break;
            }
        }
        for (int i = 0; i < 8; i++) {
            try {
                text.append(" dyke ").append(x.dyke(i, 0)).append(' ').append(x.dyke(i, 1));
                text.append(' ').append(x.dyke(i, 2));
            } catch (IndexOutOfBoundsException none) {
                break;
            }
        }
    }

    private static void addOutside(StringBuilder text, Polderwardens x) {
        for (int hour = 0; hour < 30; hour++) {
            text.append(" sea ").append(x.sea(hour));
        }
        text.append(" forecast ").append(x.forecast(1)).append(' ').append(x.forecast(7));
        for (int year = 0; year < 20; year++) {
            try {
                text.append(" record ").append(x.record(year));
            } catch (IndexOutOfBoundsException none) {
                return;
            }
        }
    }
}

/** All that a fair answers without being changed by the question, as one text: two fairs of one state look the same. */
final class Picture {
    private Picture() {
    }

    static String of(HorseFair fair) {
        StringBuilder all = new StringBuilder();
        for (int what = 0; what < 8; what++) {
            all.append(fair.count(what)).append(' ');
        }
        all.append("wrong ").append(fair.wrong());
        lands(fair, all);
        people(fair, all);
        horses(fair, all);
        sales(fair, all);
        debts(fair, all);
        return all.toString();
    }

    private static void lands(HorseFair fair, StringBuilder all) {
        for (int l = 0; l < 3; l++) {
            all.append("\nland ").append(l);
            for (int what = 0; what < 15; what++) {
                all.append(' ').append(fair.rule(l, what));
            }
        }
    }

    private static void people(HorseFair fair, StringBuilder all) {
        for (int p = 0; p < fair.count(1); p++) {
            all.append("\nperson ").append(p);
            for (int what = 0; what < 5; what++) {
                all.append(' ').append(fair.purse(p, what));
            }
        }
    }

    private static void horses(HorseFair fair, StringBuilder all) {
        for (int h = 0; h < fair.count(2); h++) {
            all.append("\nhorse ").append(h);
            for (int what = 0; what < 5; what++) {
                all.append(' ').append(fair.about(h, what));
            }
            for (int f = 0; f < 6; f++) {
                all.append(" fault ").append(fair.fault(h, f, 0)).append(' ').append(fair.fault(h, f, 1));
            }
            hands(fair, h, all);
        }
    }

    private static void hands(HorseFair fair, int h, StringBuilder all) {
        for (int i = 0; i < fair.about(h, 4); i++) {
            all.append(" hand");
            for (int what = 0; what < 3; what++) {
                all.append(' ').append(fair.hand(h, i, what));
            }
        }
    }

    private static void sales(HorseFair fair, StringBuilder all) {
        for (int k = 0; k < fair.count(3); k++) {
            all.append("\nsale ").append(k);
            for (int what = 0; what < 8; what++) {
                all.append(' ').append(fair.sale(k, what));
            }
        }
    }

    private static void debts(HorseFair fair, StringBuilder all) {
        for (int k = 0; k < fair.count(5); k++) {
            all.append("\ndebt ").append(k);
            for (int what = 0; what < 4; what++) {
                all.append(' ').append(fair.debt(k, what));
            }
        }
    }
}

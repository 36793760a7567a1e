/** One call by its name and numbers, told as a text such as "gate 2 4". */
record Call(String name, int[] numbers) {
    static Call of(String told) {
        String[] words = told.trim().split(" +");
        int[] numbers = new int[words.length - 1];
        for (int i = 0; i < numbers.length; i++) {
            numbers[i] = Integer.parseInt(words[i + 1]);
        }
        return new Call(words[0], numbers);
    }

    long on(SweptGates x) {
        return Caller.call(x, name, numbers);
    }

    /** Whether the document tells S of it. */
    boolean leavesState() {
        switch (name) {
            case "inputs": case "gate": case "xor": case "mux": case "out": case "pattern": case "settles": case "does":
                return true;
            default:
                return false;
        }
    }
}

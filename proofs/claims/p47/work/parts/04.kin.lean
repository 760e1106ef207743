/-! KINDS of cells: the static world (printed by gen/kinds.py) -/
abbrev me_NK : Nat := 53
/-- what arrays hold, by number -/
def me_at : List FieldType := [.int, .boolean, .char, .object "Meshyard$Row", .object "Meshyard$Router", .object "Meshyard$Core", .object "Meshyard$Packet"]
/-- type (0 object, 1 ints, 2 longs, 3 doubles, 4 references), class or array number, length -/
def me_kT : List (Nat × Nat × Nat) := [(0, 11, 10), (0, 3, 5), (1, 0, 64), (1, 1, 64), (1, 0, 16), (1, 0, 16), (0, 6, 3), (4, 6, 200), (0, 4, 15), (0, 5, 4), (1, 0, 8), (1, 0, 64), (4, 4, 16), (0, 7, 5), (4, 3, 10), (1, 0, 10), (1, 0, 2), (0, 8, 8), (1, 0, 4), (1, 0, 4), (1, 0, 4), (4, 5, 16), (0, 1, 9), (1, 0, 8), (1, 0, 6), (1, 2, 12), (1, 0, 12), (0, 9, 5), (1, 0, 64), (1, 1, 64), (0, 2, 8), (0, 10, 3), (0, 0, 5), (1, 0, 5), (1, 0, 5), (1, 0, 5), (1, 1, 0), (1, 1, 1), (1, 1, 2), (1, 1, 3), (1, 1, 4), (1, 1, 5), (1, 1, 6), (1, 1, 7), (1, 1, 8), (1, 1, 9), (1, 1, 10), (1, 1, 11), (1, 1, 12), (1, 1, 13), (1, 1, 14), (1, 1, 15), (1, 1, 16)]
def me_kR : List (List Bool) := [[true, true, true, true, true, true, true, true, true, false], [true, true, true, true, false], [], [], [], [], [true, false, false], [], [false, false, false, false, false, false, false, false, false, false, false, false, false, false, false], [true, true, true, false], [], [], [], [true, true, true, false, false], [], [], [], [true, true, true, false, false, false, false, false], [], [], [], [], [true, true, true, true, false, false, false, false, false], [], [], [], [], [true, true, true, true, false], [], [], [true, true, true, true, true, false, false, false], [true, true, true], [true, true, true, true, true], [], [], [], [], [], [], [], [], [], [], [], [], [], [], [], [], [], [], [], []]
/-- where references lead, once all is built -/
def me_rT : List (Nat → Nat → Option (Nat × Nat)) := [fun i j => [some (1, 0), some (6, 0), some (9, 0), some (12, 0), some (21, 0), some (27, 0), some (30, 0), some (31, 0), some (32, 0), none].getD j none,
  fun i j => [some (2, 0), some (3, 0), some (4, 0), some (5, 0), none].getD j none,
  fun _ _ => none,
  fun _ _ => none,
  fun _ _ => none,
  fun _ _ => none,
  fun i j => [some (7, 0), none, none].getD j none,
  fun i j => some (8, j),
  fun _ _ => none,
  fun i j => [some (1, 0), some (10, 0), some (11, 0), none].getD j none,
  fun _ _ => none,
  fun _ _ => none,
  fun i j => some (13, j),
  fun i j => [some (14, i), some (15, i), some (16, i), none, none].getD j none,
  fun i j => some (17, 10 * i + j),
  fun _ _ => none,
  fun _ _ => none,
  fun i j => [some (18, i), some (19, i), some (20, i), none, none, none, none, none].getD j none,
  fun _ _ => none,
  fun _ _ => none,
  fun _ _ => none,
  fun i j => some (22, j),
  fun i j => [some (23, i), some (24, i), some (25, i), some (26, i), none, none, none, none, none].getD j none,
  fun _ _ => none,
  fun _ _ => none,
  fun _ _ => none,
  fun _ _ => none,
  fun i j => [some (1, 0), some (12, 0), some (28, 0), some (29, 0), none].getD j none,
  fun _ _ => none,
  fun _ _ => none,
  fun i j => [some (1, 0), some (27, 0), some (12, 0), some (6, 0), some (21, 0), none, none, none].getD j none,
  fun i j => [some (1, 0), some (6, 0), some (21, 0)].getD j none,
  fun i j => [some (1, 0), some (12, 0), some (33, 0), some (34, 0), some (35, 0)].getD j none,
  fun _ _ => none,
  fun _ _ => none,
  fun _ _ => none,
  fun _ _ => none,
  fun _ _ => none,
  fun _ _ => none,
  fun _ _ => none,
  fun _ _ => none,
  fun _ _ => none,
  fun _ _ => none,
  fun _ _ => none,
  fun _ _ => none,
  fun _ _ => none,
  fun _ _ => none,
  fun _ _ => none,
  fun _ _ => none,
  fun _ _ => none,
  fun _ _ => none,
  fun _ _ => none,
  fun _ _ => none]
def me_cT : List Nat := [1, 1, 1, 1, 1, 1, 1, 1, 200, 1, 1, 1, 1, 16, 16, 16, 16, 160, 160, 160, 160, 1, 16, 16, 16, 16, 16, 1, 1, 1, 1, 1, 1, 1, 1, 1, 0, 0, 0, 0, 0, 0, 0, 0, 0, 0, 0, 0, 0, 0, 0, 0, 0]
/-- string constants: class, place in its pool, text -/
def me_strs : List (String × Nat × String) := [("Meshyard", 428, "there is no such packet"), ("Meshyard", 383, "there are no packets"), ("Meshyard", 425, "there is no such node"), ("Meshyard", 432, "a number is out of range"), ("Meshyard", 437, "there is no room for a packet"), ("Meshyard", 141, "the packet is no question"), ("Meshyard", 148, "the question was not delivered"), ("Meshyard", 160, "the head is at no router"), ("Meshyard", 170, "the packet was not delivered"), ("Meshyard", 186, "no message of this source lies there"), ("Meshyard", 213, "xyt"), ("Meshyard", 220, "a way is x, y or t"), ("Meshyard", 243, "ewsnc"), ("Meshyard", 441, "there is no such row or channel"), ("Meshyard", 270, "the router or its core has something to do")]
/-- exceptions that others do not catch -/
def me_ncs : List (String × String) := [("java/lang/IllegalArgumentException", "java/lang/IndexOutOfBoundsException"), ("java/lang/IllegalStateException", "java/lang/IndexOutOfBoundsException"), ("java/lang/UnsupportedOperationException", "java/lang/IndexOutOfBoundsException"), ("java/util/NoSuchElementException", "java/lang/IndexOutOfBoundsException"), ("java/lang/IndexOutOfBoundsException", "java/lang/IllegalArgumentException"), ("java/lang/IllegalStateException", "java/lang/IllegalArgumentException"), ("java/lang/UnsupportedOperationException", "java/lang/IllegalArgumentException"), ("java/util/NoSuchElementException", "java/lang/IllegalArgumentException"), ("java/lang/IllegalArgumentException", "java/lang/IllegalStateException"), ("java/lang/IndexOutOfBoundsException", "java/lang/IllegalStateException"), ("java/lang/UnsupportedOperationException", "java/lang/IllegalStateException"), ("java/util/NoSuchElementException", "java/lang/IllegalStateException"), ("java/lang/IllegalArgumentException", "java/util/NoSuchElementException"), ("java/lang/IndexOutOfBoundsException", "java/util/NoSuchElementException"), ("java/lang/IllegalStateException", "java/util/NoSuchElementException"), ("java/lang/UnsupportedOperationException", "java/util/NoSuchElementException"), ("java/lang/IllegalArgumentException", "java/lang/UnsupportedOperationException"), ("java/lang/IndexOutOfBoundsException", "java/lang/UnsupportedOperationException"), ("java/lang/IllegalStateException", "java/lang/UnsupportedOperationException"), ("java/util/NoSuchElementException", "java/lang/UnsupportedOperationException")]

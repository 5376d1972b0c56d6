/-! PURE: the ranges of the shared ints, printed by gen_ranges.py -/
/-- scalars, by their numbers -/
def q_sc : List (Int × Int) := [(-2147483648, 2147483647), (0, 200), (0, 8), (0, 100), (0, 1), (-1, 64), (0, 600), (0, 1), (0, 100), (0, 1000), (0, 20), (-2147483648, 2147483647), (-2147483648, 2147483647), (0, 1), (0, 4), (0, 1000), (0, 15), (0, 15), (-2147483648, 2147483647), (0, 3), (-2147483648, 2147483647), (-2147483648, 2147483647), (0, 100), (-2147483648, 2147483647), (-2147483648, 2147483647), (0, 1), (0, 199), (0, 9000), (0, 1), (0, 1), (-2147483648, 2147483647), (0, 1), (0, 15), (0, 1), (0, 10), (0, 5), (0, 1), (0, 1), (0, 1), (0, 1), (0, 1), (0, 1000), (0, 99), (-250, 250), (-1, 1000), (0, 119), (0, 9000), (0, 400), (0, 1), (0, 1), (0, 1000), (20, 130), (0, 30000), (0, 6), (-2147483648, 2147483647), (0, 35999), (-2147483648, 2147483647), (0, 64), (-2147483648, 2147483647), (-2147483648, 2147483647), (-2147483648, 2147483647), (-2147483648, 2147483647), (0, 66), (0, 1), (0, 1), (-2147483648, 2147483647), (-2147483648, 2147483647), (0, 1), (0, 3), (0, 600), (-1, 1), (-10000, 30000), (-10000, 30000), (0, 20), (0, 20), (0, 500), (0, 250), (-10000, 1000), (-1000, 1000), (-16000, 16000), (-50000, 50000), (0, 2), (0, 30000), (0, 16000), (0, 800), (0, 20), (0, 1), (0, 1), (-2147483648, 2147483647), (-2147483648, 2147483647), (-2147483648, 2147483647), (-2147483648, 2147483647), (-2147483648, 2147483647), (-2147483648, 2147483647), (0, 2), (0, 100), (0, 1)]
/-- the least and the greatest of a shared int -/
def q_rg (v : Nat) : Int × Int := match v / 1000 with
  | 0 => q_sc.getD v (-2147483648, 2147483647)
  | 1 => (0, 126)
  | 3 => (0, 79)
  | 8 => (match (v - 8000) / 8 with
    | 0 => (0, 150)
    | 2 => (0, 25000)
    | 3 => (-100, 450)
    | _ => (-2147483648, 2147483647))
  | 9 => (-100, 100)
  | 10 => ((pj_xf 3 (v - 10000)).toInt, (pj_xf 4 (v - 10000)).toInt)
  | 12 => if v < 12016 then (0, 20000) else (-100, 450)
  | 40 => (match (v - 40000) / 28 with
    | 0 => (-128, 127)
    | 4 => (0, 39)
    | _ => (0, 1))
  | 11 => (0, 10000)
  | 15 => (0, 1)
  | 17 => (0, 7)
  | 18 => (0, 1)
  | 19 => (0, 1)
  | 21 => (0, 4)
  | 22 => (0, 7)
  | 23 => (0, 1)
  | 24 => (0, 1)
  | 25 => (0, 25000)
  | 26 => (-10000, 30000)
  | 27 => (-10000, 30000)
  | 28 => if v < 28013 then (2, 8) else (-2147483648, 2147483647)
  | 29 => (0, 1023)
  | 30 => (0, 1023)
  | 31 => (0, 1023)
  | 32 => (0, 1023)
  | 33 => (0, 1023)
  | 34 => (-10000, 30000)
  | 35 => (0, 100)
  | 36 => (0, 1)
  | 37 => (0, 255)
  | 38 => (0, 255)
  | 39 => (-100, 20000)
  | _ => (-2147483648, 2147483647)
/-- every shared int is in its range -/
def q_R (s : Nat → Int32) : Prop := ∀ v, (q_rg v).1 ≤ (s v).toInt ∧ (s v).toInt ≤ (q_rg v).2
theorem q_R_u {s : Nat → Int32} {v : Nat} {a : Int32} (h : q_R s) (h1 : (q_rg v).1 ≤ a.toInt ∧ a.toInt ≤ (q_rg v).2) : q_R (pj_u s v a) := by
  intro w
  unfold pj_u
  split
  · rename_i e
    rw [e]
    exact h1
  · exact h w
/-- the array at 1000 q -/
theorem q_rgA {q k : Nat} (h : k < 1000) : (1000 * q + k) / 1000 = q := by omega
theorem q_R1 {s : Nat → Int32} (h : q_R s) : 0 ≤ (s 1).toInt ∧ (s 1).toInt ≤ 200 := h 1
theorem q_R2 {s : Nat → Int32} (h : q_R s) : 0 ≤ (s 2).toInt ∧ (s 2).toInt ≤ 8 := h 2
theorem q_R3 {s : Nat → Int32} (h : q_R s) : 0 ≤ (s 3).toInt ∧ (s 3).toInt ≤ 100 := h 3
theorem q_R4 {s : Nat → Int32} (h : q_R s) : 0 ≤ (s 4).toInt ∧ (s 4).toInt ≤ 1 := h 4
theorem q_R5 {s : Nat → Int32} (h : q_R s) : -1 ≤ (s 5).toInt ∧ (s 5).toInt ≤ 64 := h 5
theorem q_R6 {s : Nat → Int32} (h : q_R s) : 0 ≤ (s 6).toInt ∧ (s 6).toInt ≤ 600 := h 6
theorem q_R7 {s : Nat → Int32} (h : q_R s) : 0 ≤ (s 7).toInt ∧ (s 7).toInt ≤ 1 := h 7
theorem q_R8 {s : Nat → Int32} (h : q_R s) : 0 ≤ (s 8).toInt ∧ (s 8).toInt ≤ 100 := h 8
theorem q_R9 {s : Nat → Int32} (h : q_R s) : 0 ≤ (s 9).toInt ∧ (s 9).toInt ≤ 1000 := h 9
theorem q_R10 {s : Nat → Int32} (h : q_R s) : 0 ≤ (s 10).toInt ∧ (s 10).toInt ≤ 20 := h 10
theorem q_R13 {s : Nat → Int32} (h : q_R s) : 0 ≤ (s 13).toInt ∧ (s 13).toInt ≤ 1 := h 13
theorem q_R14 {s : Nat → Int32} (h : q_R s) : 0 ≤ (s 14).toInt ∧ (s 14).toInt ≤ 4 := h 14
theorem q_R15 {s : Nat → Int32} (h : q_R s) : 0 ≤ (s 15).toInt ∧ (s 15).toInt ≤ 1000 := h 15
theorem q_R16 {s : Nat → Int32} (h : q_R s) : 0 ≤ (s 16).toInt ∧ (s 16).toInt ≤ 15 := h 16
theorem q_R17 {s : Nat → Int32} (h : q_R s) : 0 ≤ (s 17).toInt ∧ (s 17).toInt ≤ 15 := h 17
theorem q_R19 {s : Nat → Int32} (h : q_R s) : 0 ≤ (s 19).toInt ∧ (s 19).toInt ≤ 3 := h 19
theorem q_R22 {s : Nat → Int32} (h : q_R s) : 0 ≤ (s 22).toInt ∧ (s 22).toInt ≤ 100 := h 22
theorem q_R25 {s : Nat → Int32} (h : q_R s) : 0 ≤ (s 25).toInt ∧ (s 25).toInt ≤ 1 := h 25
theorem q_R26 {s : Nat → Int32} (h : q_R s) : 0 ≤ (s 26).toInt ∧ (s 26).toInt ≤ 199 := h 26
theorem q_R27 {s : Nat → Int32} (h : q_R s) : 0 ≤ (s 27).toInt ∧ (s 27).toInt ≤ 9000 := h 27
theorem q_R28 {s : Nat → Int32} (h : q_R s) : 0 ≤ (s 28).toInt ∧ (s 28).toInt ≤ 1 := h 28
theorem q_R29 {s : Nat → Int32} (h : q_R s) : 0 ≤ (s 29).toInt ∧ (s 29).toInt ≤ 1 := h 29
theorem q_R31 {s : Nat → Int32} (h : q_R s) : 0 ≤ (s 31).toInt ∧ (s 31).toInt ≤ 1 := h 31
theorem q_R32 {s : Nat → Int32} (h : q_R s) : 0 ≤ (s 32).toInt ∧ (s 32).toInt ≤ 15 := h 32
theorem q_R33 {s : Nat → Int32} (h : q_R s) : 0 ≤ (s 33).toInt ∧ (s 33).toInt ≤ 1 := h 33
theorem q_R34 {s : Nat → Int32} (h : q_R s) : 0 ≤ (s 34).toInt ∧ (s 34).toInt ≤ 10 := h 34
theorem q_R35 {s : Nat → Int32} (h : q_R s) : 0 ≤ (s 35).toInt ∧ (s 35).toInt ≤ 5 := h 35
theorem q_R36 {s : Nat → Int32} (h : q_R s) : 0 ≤ (s 36).toInt ∧ (s 36).toInt ≤ 1 := h 36
theorem q_R37 {s : Nat → Int32} (h : q_R s) : 0 ≤ (s 37).toInt ∧ (s 37).toInt ≤ 1 := h 37
theorem q_R38 {s : Nat → Int32} (h : q_R s) : 0 ≤ (s 38).toInt ∧ (s 38).toInt ≤ 1 := h 38
theorem q_R39 {s : Nat → Int32} (h : q_R s) : 0 ≤ (s 39).toInt ∧ (s 39).toInt ≤ 1 := h 39
theorem q_R40 {s : Nat → Int32} (h : q_R s) : 0 ≤ (s 40).toInt ∧ (s 40).toInt ≤ 1 := h 40
theorem q_R41 {s : Nat → Int32} (h : q_R s) : 0 ≤ (s 41).toInt ∧ (s 41).toInt ≤ 1000 := h 41
theorem q_R42 {s : Nat → Int32} (h : q_R s) : 0 ≤ (s 42).toInt ∧ (s 42).toInt ≤ 99 := h 42
theorem q_R43 {s : Nat → Int32} (h : q_R s) : -250 ≤ (s 43).toInt ∧ (s 43).toInt ≤ 250 := h 43
theorem q_R44 {s : Nat → Int32} (h : q_R s) : -1 ≤ (s 44).toInt ∧ (s 44).toInt ≤ 1000 := h 44
theorem q_R45 {s : Nat → Int32} (h : q_R s) : 0 ≤ (s 45).toInt ∧ (s 45).toInt ≤ 119 := h 45
theorem q_R46 {s : Nat → Int32} (h : q_R s) : 0 ≤ (s 46).toInt ∧ (s 46).toInt ≤ 9000 := h 46
theorem q_R47 {s : Nat → Int32} (h : q_R s) : 0 ≤ (s 47).toInt ∧ (s 47).toInt ≤ 400 := h 47
theorem q_R48 {s : Nat → Int32} (h : q_R s) : 0 ≤ (s 48).toInt ∧ (s 48).toInt ≤ 1 := h 48
theorem q_R49 {s : Nat → Int32} (h : q_R s) : 0 ≤ (s 49).toInt ∧ (s 49).toInt ≤ 1 := h 49
theorem q_R50 {s : Nat → Int32} (h : q_R s) : 0 ≤ (s 50).toInt ∧ (s 50).toInt ≤ 1000 := h 50
theorem q_R51 {s : Nat → Int32} (h : q_R s) : 20 ≤ (s 51).toInt ∧ (s 51).toInt ≤ 130 := h 51
theorem q_R52 {s : Nat → Int32} (h : q_R s) : 0 ≤ (s 52).toInt ∧ (s 52).toInt ≤ 30000 := h 52
theorem q_R53 {s : Nat → Int32} (h : q_R s) : 0 ≤ (s 53).toInt ∧ (s 53).toInt ≤ 6 := h 53
theorem q_R55 {s : Nat → Int32} (h : q_R s) : 0 ≤ (s 55).toInt ∧ (s 55).toInt ≤ 35999 := h 55
theorem q_R57 {s : Nat → Int32} (h : q_R s) : 0 ≤ (s 57).toInt ∧ (s 57).toInt ≤ 64 := h 57
theorem q_R62 {s : Nat → Int32} (h : q_R s) : 0 ≤ (s 62).toInt ∧ (s 62).toInt ≤ 66 := h 62
theorem q_R63 {s : Nat → Int32} (h : q_R s) : 0 ≤ (s 63).toInt ∧ (s 63).toInt ≤ 1 := h 63
theorem q_R64 {s : Nat → Int32} (h : q_R s) : 0 ≤ (s 64).toInt ∧ (s 64).toInt ≤ 1 := h 64
theorem q_R67 {s : Nat → Int32} (h : q_R s) : 0 ≤ (s 67).toInt ∧ (s 67).toInt ≤ 1 := h 67
theorem q_R68 {s : Nat → Int32} (h : q_R s) : 0 ≤ (s 68).toInt ∧ (s 68).toInt ≤ 3 := h 68
theorem q_R69 {s : Nat → Int32} (h : q_R s) : 0 ≤ (s 69).toInt ∧ (s 69).toInt ≤ 600 := h 69
theorem q_R70 {s : Nat → Int32} (h : q_R s) : -1 ≤ (s 70).toInt ∧ (s 70).toInt ≤ 1 := h 70
theorem q_R71 {s : Nat → Int32} (h : q_R s) : -10000 ≤ (s 71).toInt ∧ (s 71).toInt ≤ 30000 := h 71
theorem q_R72 {s : Nat → Int32} (h : q_R s) : -10000 ≤ (s 72).toInt ∧ (s 72).toInt ≤ 30000 := h 72
theorem q_R73 {s : Nat → Int32} (h : q_R s) : 0 ≤ (s 73).toInt ∧ (s 73).toInt ≤ 20 := h 73
theorem q_R74 {s : Nat → Int32} (h : q_R s) : 0 ≤ (s 74).toInt ∧ (s 74).toInt ≤ 20 := h 74
theorem q_R75 {s : Nat → Int32} (h : q_R s) : 0 ≤ (s 75).toInt ∧ (s 75).toInt ≤ 500 := h 75
theorem q_R76 {s : Nat → Int32} (h : q_R s) : 0 ≤ (s 76).toInt ∧ (s 76).toInt ≤ 250 := h 76
theorem q_R77 {s : Nat → Int32} (h : q_R s) : -10000 ≤ (s 77).toInt ∧ (s 77).toInt ≤ 1000 := h 77
theorem q_R78 {s : Nat → Int32} (h : q_R s) : -1000 ≤ (s 78).toInt ∧ (s 78).toInt ≤ 1000 := h 78
theorem q_R79 {s : Nat → Int32} (h : q_R s) : -16000 ≤ (s 79).toInt ∧ (s 79).toInt ≤ 16000 := h 79
theorem q_R80 {s : Nat → Int32} (h : q_R s) : -50000 ≤ (s 80).toInt ∧ (s 80).toInt ≤ 50000 := h 80
theorem q_R81 {s : Nat → Int32} (h : q_R s) : 0 ≤ (s 81).toInt ∧ (s 81).toInt ≤ 2 := h 81
theorem q_R82 {s : Nat → Int32} (h : q_R s) : 0 ≤ (s 82).toInt ∧ (s 82).toInt ≤ 30000 := h 82
theorem q_R83 {s : Nat → Int32} (h : q_R s) : 0 ≤ (s 83).toInt ∧ (s 83).toInt ≤ 16000 := h 83
theorem q_R84 {s : Nat → Int32} (h : q_R s) : 0 ≤ (s 84).toInt ∧ (s 84).toInt ≤ 800 := h 84
theorem q_R85 {s : Nat → Int32} (h : q_R s) : 0 ≤ (s 85).toInt ∧ (s 85).toInt ≤ 20 := h 85
theorem q_R86 {s : Nat → Int32} (h : q_R s) : 0 ≤ (s 86).toInt ∧ (s 86).toInt ≤ 1 := h 86
theorem q_R87 {s : Nat → Int32} (h : q_R s) : 0 ≤ (s 87).toInt ∧ (s 87).toInt ≤ 1 := h 87
theorem q_R94 {s : Nat → Int32} (h : q_R s) : 0 ≤ (s 94).toInt ∧ (s 94).toInt ≤ 2 := h 94
theorem q_R95 {s : Nat → Int32} (h : q_R s) : 0 ≤ (s 95).toInt ∧ (s 95).toInt ≤ 100 := h 95
theorem q_R96 {s : Nat → Int32} (h : q_R s) : 0 ≤ (s 96).toInt ∧ (s 96).toInt ≤ 1 := h 96

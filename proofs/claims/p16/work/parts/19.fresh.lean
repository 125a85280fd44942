/-! the cells behind both constructors; small ranges -/
def s_vde (a : Int32) : Int32 := ((((a / 100) * 25) + (((a / 10) - (a / 10) / 10 * 10) * 5)) + (a - a / 10 * 10))
set_option maxRecDepth 100000 in
theorem s_vd0 : (List.range 445).all (fun j => decide (0 ≤ (s_vde (Int32.ofNat j)).toInt)) = true := by decide +kernel
theorem s_vd {a : Int32} (h1 : 0 ≤ a.toInt) (h2 : a.toInt ≤ 444) : ¬ (s_vde a).toInt < 0 := by
  have h3 := List.all_eq_true.mp s_vd0 a.toInt.toNat (List.mem_range.mpr (by omega))
  have h4 := of_decide_eq_true h3
  have e : Int32.ofNat a.toInt.toNat = a := by
    apply Int32.toInt_inj.mp
    rw [Int32.toInt_ofNat_small (by omega)]
    omega
  rw [e] at h4
  omega
theorem s_ul {a : Int32} (h1 : 33 < a.toInt) (h2 : (a / 10).toInt < 4) : ¬ (a - a / 10 * 10).toInt < 4 := by
  have e1 : (a / 10).toInt = a.toInt.tdiv 10 := Int32.toInt_div_of_ne_right a 10 (by decide)
  have e2 : (a - a / 10 * 10).toInt = a.toInt.tmod 10 := rem_toInt a 10
  rw [Int.tdiv_eq_ediv_of_nonneg (by omega)] at e1
  rw [Int.tmod_eq_emod_of_nonneg (by omega)] at e2
  omega
def s_M0 : sM := [(10, [.ref 1, .int 0, .ref 2, .ref 3, .ref 8, .ref 73, .ref 78, .ref 132, .ref 135, .ref 136, .ref 138, .int (-1)]),
  (13, List.replicate 60 (.int 0)),
  (13, [.int 0, .int 0, .int 0]),
  (5, [.ref 4, .ref 7, .int 0, .int 0]),
  (7, [.ref 5, .ref 6, .int 0]),
  (13, List.replicate 61 (.int 0)),
  (13, List.replicate 61 (.int 0)),
  (13, List.replicate 60 (.int 0)),
  (3, [.ref 9, .int 0, .int 0, .int 99, .int 0, .ref 14, .ref 15, .ref 20, .ref 21, .ref 22]),
  (9, [.ref 10, .ref 11, .ref 12, .ref 13]),
  (13, [.int (-1), .int (-1), .int (-1)]),
  (13, [.int 0, .int 0, .int 0]),
  (13, [.int 0, .int 0, .int 0]),
  (13, [.int 0, .int 0, .int 0]),
  (18, [.ref 23, .ref 28, .ref 33, .ref 38, .ref 43, .ref 48, .ref 53, .ref 58, .ref 63, .ref 68]),
  (4, [.int 10, .int 0, .int 0, .int (-1), .ref 16, .ref 19, .int 0, .int (-1), .int 0, .int 0, .int 0, .int (-1)]),
  (7, [.ref 17, .ref 18, .int 0]),
  (13, List.replicate 61 (.int 0)),
  (13, List.replicate 61 (.int 0)),
  (0, [.long 0, .long 0]),
  (13, List.replicate 10 (.int 0)),
  (13, List.replicate 6 (.int 0)),
  (13, List.replicate 125 (.int 0)),
  (4, [.int 0, .int 0, .int 0, .int (-1), .ref 24, .ref 27, .int 0, .int (-1), .int 0, .int 0, .int 0, .int (-1)]),
  (7, [.ref 25, .ref 26, .int 0]),
  (13, List.replicate 61 (.int 0)),
  (13, List.replicate 61 (.int 0)),
  (0, [.long 0, .long 0]),
  (4, [.int 1, .int 0, .int 0, .int (-1), .ref 29, .ref 32, .int 0, .int (-1), .int 0, .int 0, .int 0, .int (-1)]),
  (7, [.ref 30, .ref 31, .int 0]),
  (13, List.replicate 61 (.int 0)),
  (13, List.replicate 61 (.int 0)),
  (0, [.long 0, .long 0]),
  (4, [.int 2, .int 0, .int 0, .int (-1), .ref 34, .ref 37, .int 0, .int (-1), .int 0, .int 0, .int 0, .int (-1)]),
  (7, [.ref 35, .ref 36, .int 0]),
  (13, List.replicate 61 (.int 0)),
  (13, List.replicate 61 (.int 0)),
  (0, [.long 0, .long 0]),
  (4, [.int 3, .int 0, .int 0, .int (-1), .ref 39, .ref 42, .int 0, .int (-1), .int 0, .int 0, .int 0, .int (-1)]),
  (7, [.ref 40, .ref 41, .int 0]),
  (13, List.replicate 61 (.int 0)),
  (13, List.replicate 61 (.int 0)),
  (0, [.long 0, .long 0]),
  (4, [.int 4, .int 0, .int 0, .int (-1), .ref 44, .ref 47, .int 0, .int (-1), .int 0, .int 0, .int 0, .int (-1)]),
  (7, [.ref 45, .ref 46, .int 0]),
  (13, List.replicate 61 (.int 0)),
  (13, List.replicate 61 (.int 0)),
  (0, [.long 0, .long 0]),
  (4, [.int 5, .int 0, .int 0, .int (-1), .ref 49, .ref 52, .int 0, .int (-1), .int 0, .int 0, .int 0, .int (-1)]),
  (7, [.ref 50, .ref 51, .int 0]),
  (13, List.replicate 61 (.int 0)),
  (13, List.replicate 61 (.int 0)),
  (0, [.long 0, .long 0]),
  (4, [.int 6, .int 0, .int 0, .int (-1), .ref 54, .ref 57, .int 0, .int (-1), .int 0, .int 0, .int 0, .int (-1)]),
  (7, [.ref 55, .ref 56, .int 0]),
  (13, List.replicate 61 (.int 0)),
  (13, List.replicate 61 (.int 0)),
  (0, [.long 0, .long 0]),
  (4, [.int 7, .int 0, .int 0, .int (-1), .ref 59, .ref 62, .int 0, .int (-1), .int 0, .int 0, .int 0, .int (-1)]),
  (7, [.ref 60, .ref 61, .int 0]),
  (13, List.replicate 61 (.int 0)),
  (13, List.replicate 61 (.int 0)),
  (0, [.long 0, .long 0]),
  (4, [.int 8, .int 0, .int 0, .int (-1), .ref 64, .ref 67, .int 0, .int (-1), .int 0, .int 0, .int 0, .int (-1)]),
  (7, [.ref 65, .ref 66, .int 0]),
  (13, List.replicate 61 (.int 0)),
  (13, List.replicate 61 (.int 0)),
  (0, [.long 0, .long 0]),
  (4, [.int 9, .int 0, .int 0, .int (-1), .ref 69, .ref 72, .int 0, .int (-1), .int 0, .int 0, .int 0, .int (-1)]),
  (7, [.ref 70, .ref 71, .int 0]),
  (13, List.replicate 61 (.int 0)),
  (13, List.replicate 61 (.int 0)),
  (0, [.long 0, .long 0]),
  (1, [.int 0, .int 0, .ref 74, .ref 75, .ref 76, .ref 77]),
  (13, List.replicate 40 (.int 0)),
  (13, List.replicate 40 (.int 0)),
  (13, List.replicate 40 (.int 0)),
  (13, List.replicate 40 (.int 0)),
  (8, [.ref 79, .ref 84, .ref 85, .ref 86, .int (-1), .int (-1)]),
  (4, [.int 10, .int 0, .int 0, .int (-1), .ref 80, .ref 83, .int 0, .int (-1), .int 0, .int 0, .int 0, .int (-1)]),
  (7, [.ref 81, .ref 82, .int 0]),
  (13, List.replicate 61 (.int 0)),
  (13, List.replicate 61 (.int 0)),
  (0, [.long 0, .long 0]),
  (17, [.ref 87, .ref 88, .ref 89, .ref 90, .ref 91, .ref 92, .ref 93, .ref 94, .ref 95, .ref 96, .ref 97, .ref 98, .ref 99, .ref 100, .ref 101, .ref 102, .ref 103, .ref 104, .ref 105, .ref 106, .ref 107, .ref 108, .ref 109, .ref 110, .ref 111, .ref 112, .ref 113, .ref 114, .ref 115, .ref 116, .ref 117, .ref 118, .ref 119, .ref 120, .ref 121, .ref 122, .ref 123, .ref 124, .ref 125, .ref 126, .ref 127, .ref 128, .ref 129, .ref 130, .ref 131]),
  (0, [.long (-1), .long 2305843009213693951]),
  (13, List.replicate 31 (.int 0)),
  (0, [.long 0, .long 0]),
  (0, [.long 0, .long 0]),
  (0, [.long 0, .long 0]),
  (0, [.long 0, .long 0]),
  (0, [.long 0, .long 0]),
  (0, [.long 0, .long 0]),
  (0, [.long 0, .long 0]),
  (0, [.long 0, .long 0]),
  (0, [.long 0, .long 0]),
  (0, [.long 0, .long 0]),
  (0, [.long 0, .long 0]),
  (0, [.long 0, .long 0]),
  (0, [.long 0, .long 0]),
  (0, [.long 0, .long 0]),
  (0, [.long 0, .long 0]),
  (0, [.long 0, .long 0]),
  (0, [.long 0, .long 0]),
  (0, [.long 0, .long 0]),
  (0, [.long 0, .long 0]),
  (0, [.long 0, .long 0]),
  (0, [.long 0, .long 0]),
  (0, [.long 0, .long 0]),
  (0, [.long 0, .long 0]),
  (0, [.long 0, .long 0]),
  (0, [.long 0, .long 0]),
  (0, [.long 0, .long 0]),
  (0, [.long 0, .long 0]),
  (0, [.long 0, .long 0]),
  (0, [.long 0, .long 0]),
  (0, [.long 0, .long 0]),
  (0, [.long 0, .long 0]),
  (0, [.long 0, .long 0]),
  (0, [.long 0, .long 0]),
  (0, [.long 0, .long 0]),
  (0, [.long 0, .long 0]),
  (0, [.long 0, .long 0]),
  (0, [.long 0, .long 0]),
  (0, [.long 0, .long 0]),
  (0, [.long 0, .long 0]),
  (0, [.long 0, .long 0]),
  (0, [.long 0, .long 0]),
  (0, [.long 0, .long 0]),
  (0, [.long 0, .long 0]),
  (0, [.long 0, .long 0]),
  (0, [.long 0, .long 0]),
  (2, [.int 0, .int 0, .ref 133, .ref 134]),
  (13, List.replicate 50 (.int 0)),
  (13, List.replicate 24 (.int 0)),
  (19, [.ref 139, .ref 141, .ref 143, .ref 145, .ref 147, .ref 149]),
  (6, [.int (-1), .int (-1), .int 0, .ref 137]),
  (14, List.replicate 60 (.long 0)),
  (0, [.long 0, .long 0]),
  (6, [.int (-1), .int (-1), .int 0, .ref 140]),
  (14, List.replicate 60 (.long 0)),
  (6, [.int (-1), .int (-1), .int 0, .ref 142]),
  (14, List.replicate 60 (.long 0)),
  (6, [.int (-1), .int (-1), .int 0, .ref 144]),
  (14, List.replicate 60 (.long 0)),
  (6, [.int (-1), .int (-1), .int 0, .ref 146]),
  (14, List.replicate 60 (.long 0)),
  (6, [.int (-1), .int (-1), .int 0, .ref 148]),
  (14, List.replicate 60 (.long 0)),
  (6, [.int (-1), .int (-1), .int 0, .ref 150]),
  (14, List.replicate 60 (.long 0)),
  (11, [.int 0, .ref 152, .int 0, .int 0, .int 0, .int 0, .int 0, .ref 153, .ref 154, .ref 155, .ref 156, .ref 157, .ref 158, .ref 159, .int 0, .ref 160, .ref 161, .ref 162, .int 0, .int 99, .ref 163, .ref 164, .ref 165, .int 0, .int 0, .ref 166, .ref 167, .ref 168, .ref 169, .ref 170, .int 0, .int 0, .ref 171, .ref 172, .ref 173, .int 0, .int 0, .ref 174, .ref 175, .ref 176, .ref 177, .ref 178, .int 0, .ref 179, .int 0, .ref 180, .ref 181, .ref 182, .ref 183, .ref 184]),
  (12, List.replicate 60 (.int 0)),
  (12, List.replicate 1430 (.int 0)),
  (13, List.replicate 1430 (.int 0)),
  (13, List.replicate 11 (.int 0)),
  (15, List.replicate 671 (.int 0)),
  (15, List.replicate 671 (.int 0)),
  (13, List.replicate 6 (.int 0)),
  (13, List.replicate 130 (.int 0)),
  (13, List.replicate 11 (.int 0)),
  (13, List.replicate 11 (.int 0)),
  (13, List.replicate 11 (.int 0)),
  (13, [.int (-1), .int (-1), .int (-1)]),
  (13, [.int 0, .int 0, .int 0]),
  (12, List.replicate 60 (.int 0)),
  (13, List.replicate 40 (.int 0)),
  (13, List.replicate 40 (.int 0)),
  (13, List.replicate 40 (.int 0)),
  (13, List.replicate 40 (.int 0)),
  (16, List.replicate 11 (.int 0)),
  (16, List.replicate 1375 (.int 0)),
  (13, List.replicate 11 (.int 0)),
  (13, List.replicate 125 (.int 0)),
  (13, List.replicate 10 (.int 0)),
  (13, List.replicate 10 (.int 0)),
  (13, List.replicate 10 (.int 0)),
  (13, [.int 0, .int 0, .int 0]),
  (13, [.int 0, .int 0, .int 0]),
  (13, List.replicate 50 (.int 0)),
  (13, List.replicate 24 (.int 0)),
  (13, List.replicate 6 (.int (-1))),
  (13, List.replicate 6 (.int 0)),
  (14, List.replicate 360 (.long 0)),
  (14, List.replicate 60 (.long 0))]
theorem s_pin {a : Int32} {k : Int} {v : Int32} (h : a.toInt = k) (hv : v.toInt = k) : a = v := Int32.toInt_inj.mp (h.trans hv.symm)
theorem s_rg_0_1 {a : Int32} (h1 : 0 ≤ a.toInt) (h2 : a.toInt ≤ 1) : a = 0 ∨ a = 1 := by
  rcases (show a.toInt = 0 ∨ a.toInt = 1 by omega) with h | h
  · exact Or.inl (s_pin h (by decide))
  · exact Or.inr (s_pin h (by decide))
theorem s_rg_0_2 {a : Int32} (h1 : 0 ≤ a.toInt) (h2 : a.toInt ≤ 2) : a = 0 ∨ a = 1 ∨ a = 2 := by
  rcases (show a.toInt = 0 ∨ a.toInt = 1 ∨ a.toInt = 2 by omega) with h | h | h
  · exact Or.inl (s_pin h (by decide))
  · exact Or.inr (Or.inl (s_pin h (by decide)))
  · exact Or.inr (Or.inr (s_pin h (by decide)))
theorem s_rg_0_3 {a : Int32} (h1 : 0 ≤ a.toInt) (h2 : a.toInt ≤ 3) : a = 0 ∨ a = 1 ∨ a = 2 ∨ a = 3 := by
  rcases (show a.toInt = 0 ∨ a.toInt = 1 ∨ a.toInt = 2 ∨ a.toInt = 3 by omega) with h | h | h | h
  · exact Or.inl (s_pin h (by decide))
  · exact Or.inr (Or.inl (s_pin h (by decide)))
  · exact Or.inr (Or.inr (Or.inl (s_pin h (by decide))))
  · exact Or.inr (Or.inr (Or.inr (s_pin h (by decide))))
theorem s_rg_0_4 {a : Int32} (h1 : 0 ≤ a.toInt) (h2 : a.toInt ≤ 4) : a = 0 ∨ a = 1 ∨ a = 2 ∨ a = 3 ∨ a = 4 := by
  rcases (show a.toInt = 0 ∨ a.toInt = 1 ∨ a.toInt = 2 ∨ a.toInt = 3 ∨ a.toInt = 4 by omega) with h | h | h | h | h
  · exact Or.inl (s_pin h (by decide))
  · exact Or.inr (Or.inl (s_pin h (by decide)))
  · exact Or.inr (Or.inr (Or.inl (s_pin h (by decide))))
  · exact Or.inr (Or.inr (Or.inr (Or.inl (s_pin h (by decide)))))
  · exact Or.inr (Or.inr (Or.inr (Or.inr (s_pin h (by decide)))))
theorem s_rg_0_5 {a : Int32} (h1 : 0 ≤ a.toInt) (h2 : a.toInt ≤ 5) : a = 0 ∨ a = 1 ∨ a = 2 ∨ a = 3 ∨ a = 4 ∨ a = 5 := by
  rcases (show a.toInt = 0 ∨ a.toInt = 1 ∨ a.toInt = 2 ∨ a.toInt = 3 ∨ a.toInt = 4 ∨ a.toInt = 5 by omega) with h | h | h | h | h | h
  · exact Or.inl (s_pin h (by decide))
  · exact Or.inr (Or.inl (s_pin h (by decide)))
  · exact Or.inr (Or.inr (Or.inl (s_pin h (by decide))))
  · exact Or.inr (Or.inr (Or.inr (Or.inl (s_pin h (by decide)))))
  · exact Or.inr (Or.inr (Or.inr (Or.inr (Or.inl (s_pin h (by decide))))))
  · exact Or.inr (Or.inr (Or.inr (Or.inr (Or.inr (s_pin h (by decide))))))
theorem s_rg_0_6 {a : Int32} (h1 : 0 ≤ a.toInt) (h2 : a.toInt ≤ 6) : a = 0 ∨ a = 1 ∨ a = 2 ∨ a = 3 ∨ a = 4 ∨ a = 5 ∨ a = 6 := by
  rcases (show a.toInt = 0 ∨ a.toInt = 1 ∨ a.toInt = 2 ∨ a.toInt = 3 ∨ a.toInt = 4 ∨ a.toInt = 5 ∨ a.toInt = 6 by omega) with h | h | h | h | h | h | h
  · exact Or.inl (s_pin h (by decide))
  · exact Or.inr (Or.inl (s_pin h (by decide)))
  · exact Or.inr (Or.inr (Or.inl (s_pin h (by decide))))
  · exact Or.inr (Or.inr (Or.inr (Or.inl (s_pin h (by decide)))))
  · exact Or.inr (Or.inr (Or.inr (Or.inr (Or.inl (s_pin h (by decide))))))
  · exact Or.inr (Or.inr (Or.inr (Or.inr (Or.inr (Or.inl (s_pin h (by decide)))))))
  · exact Or.inr (Or.inr (Or.inr (Or.inr (Or.inr (Or.inr (s_pin h (by decide)))))))
theorem s_rg_0_33 {a : Int32} (h1 : 0 ≤ a.toInt) (h2 : a.toInt ≤ 33) : a = 0 ∨ a = 1 ∨ a = 2 ∨ a = 3 ∨ a = 4 ∨ a = 5 ∨ a = 6 ∨ a = 7 ∨ a = 8 ∨ a = 9 ∨ a = 10 ∨ a = 11 ∨ a = 12 ∨ a = 13 ∨ a = 14 ∨ a = 15 ∨ a = 16 ∨ a = 17 ∨ a = 18 ∨ a = 19 ∨ a = 20 ∨ a = 21 ∨ a = 22 ∨ a = 23 ∨ a = 24 ∨ a = 25 ∨ a = 26 ∨ a = 27 ∨ a = 28 ∨ a = 29 ∨ a = 30 ∨ a = 31 ∨ a = 32 ∨ a = 33 := by
  rcases (show a.toInt = 0 ∨ a.toInt = 1 ∨ a.toInt = 2 ∨ a.toInt = 3 ∨ a.toInt = 4 ∨ a.toInt = 5 ∨ a.toInt = 6 ∨ a.toInt = 7 ∨ a.toInt = 8 ∨ a.toInt = 9 ∨ a.toInt = 10 ∨ a.toInt = 11 ∨ a.toInt = 12 ∨ a.toInt = 13 ∨ a.toInt = 14 ∨ a.toInt = 15 ∨ a.toInt = 16 ∨ a.toInt = 17 ∨ a.toInt = 18 ∨ a.toInt = 19 ∨ a.toInt = 20 ∨ a.toInt = 21 ∨ a.toInt = 22 ∨ a.toInt = 23 ∨ a.toInt = 24 ∨ a.toInt = 25 ∨ a.toInt = 26 ∨ a.toInt = 27 ∨ a.toInt = 28 ∨ a.toInt = 29 ∨ a.toInt = 30 ∨ a.toInt = 31 ∨ a.toInt = 32 ∨ a.toInt = 33 by omega) with h | h | h | h | h | h | h | h | h | h | h | h | h | h | h | h | h | h | h | h | h | h | h | h | h | h | h | h | h | h | h | h | h | h
  · exact Or.inl (s_pin h (by decide))
  · exact Or.inr (Or.inl (s_pin h (by decide)))
  · exact Or.inr (Or.inr (Or.inl (s_pin h (by decide))))
  · exact Or.inr (Or.inr (Or.inr (Or.inl (s_pin h (by decide)))))
  · exact Or.inr (Or.inr (Or.inr (Or.inr (Or.inl (s_pin h (by decide))))))
  · exact Or.inr (Or.inr (Or.inr (Or.inr (Or.inr (Or.inl (s_pin h (by decide)))))))
  · exact Or.inr (Or.inr (Or.inr (Or.inr (Or.inr (Or.inr (Or.inl (s_pin h (by decide))))))))
  · exact Or.inr (Or.inr (Or.inr (Or.inr (Or.inr (Or.inr (Or.inr (Or.inl (s_pin h (by decide)))))))))
  · exact Or.inr (Or.inr (Or.inr (Or.inr (Or.inr (Or.inr (Or.inr (Or.inr (Or.inl (s_pin h (by decide))))))))))
  · exact Or.inr (Or.inr (Or.inr (Or.inr (Or.inr (Or.inr (Or.inr (Or.inr (Or.inr (Or.inl (s_pin h (by decide)))))))))))
  · exact Or.inr (Or.inr (Or.inr (Or.inr (Or.inr (Or.inr (Or.inr (Or.inr (Or.inr (Or.inr (Or.inl (s_pin h (by decide))))))))))))
  · exact Or.inr (Or.inr (Or.inr (Or.inr (Or.inr (Or.inr (Or.inr (Or.inr (Or.inr (Or.inr (Or.inr (Or.inl (s_pin h (by decide)))))))))))))
  · exact Or.inr (Or.inr (Or.inr (Or.inr (Or.inr (Or.inr (Or.inr (Or.inr (Or.inr (Or.inr (Or.inr (Or.inr (Or.inl (s_pin h (by decide))))))))))))))
  · exact Or.inr (Or.inr (Or.inr (Or.inr (Or.inr (Or.inr (Or.inr (Or.inr (Or.inr (Or.inr (Or.inr (Or.inr (Or.inr (Or.inl (s_pin h (by decide)))))))))))))))
  · exact Or.inr (Or.inr (Or.inr (Or.inr (Or.inr (Or.inr (Or.inr (Or.inr (Or.inr (Or.inr (Or.inr (Or.inr (Or.inr (Or.inr (Or.inl (s_pin h (by decide))))))))))))))))
  · exact Or.inr (Or.inr (Or.inr (Or.inr (Or.inr (Or.inr (Or.inr (Or.inr (Or.inr (Or.inr (Or.inr (Or.inr (Or.inr (Or.inr (Or.inr (Or.inl (s_pin h (by decide)))))))))))))))))
  · exact Or.inr (Or.inr (Or.inr (Or.inr (Or.inr (Or.inr (Or.inr (Or.inr (Or.inr (Or.inr (Or.inr (Or.inr (Or.inr (Or.inr (Or.inr (Or.inr (Or.inl (s_pin h (by decide))))))))))))))))))
  · exact Or.inr (Or.inr (Or.inr (Or.inr (Or.inr (Or.inr (Or.inr (Or.inr (Or.inr (Or.inr (Or.inr (Or.inr (Or.inr (Or.inr (Or.inr (Or.inr (Or.inr (Or.inl (s_pin h (by decide)))))))))))))))))))
  · exact Or.inr (Or.inr (Or.inr (Or.inr (Or.inr (Or.inr (Or.inr (Or.inr (Or.inr (Or.inr (Or.inr (Or.inr (Or.inr (Or.inr (Or.inr (Or.inr (Or.inr (Or.inr (Or.inl (s_pin h (by decide))))))))))))))))))))
  · exact Or.inr (Or.inr (Or.inr (Or.inr (Or.inr (Or.inr (Or.inr (Or.inr (Or.inr (Or.inr (Or.inr (Or.inr (Or.inr (Or.inr (Or.inr (Or.inr (Or.inr (Or.inr (Or.inr (Or.inl (s_pin h (by decide)))))))))))))))))))))
  · exact Or.inr (Or.inr (Or.inr (Or.inr (Or.inr (Or.inr (Or.inr (Or.inr (Or.inr (Or.inr (Or.inr (Or.inr (Or.inr (Or.inr (Or.inr (Or.inr (Or.inr (Or.inr (Or.inr (Or.inr (Or.inl (s_pin h (by decide))))))))))))))))))))))
  · exact Or.inr (Or.inr (Or.inr (Or.inr (Or.inr (Or.inr (Or.inr (Or.inr (Or.inr (Or.inr (Or.inr (Or.inr (Or.inr (Or.inr (Or.inr (Or.inr (Or.inr (Or.inr (Or.inr (Or.inr (Or.inr (Or.inl (s_pin h (by decide)))))))))))))))))))))))
  · exact Or.inr (Or.inr (Or.inr (Or.inr (Or.inr (Or.inr (Or.inr (Or.inr (Or.inr (Or.inr (Or.inr (Or.inr (Or.inr (Or.inr (Or.inr (Or.inr (Or.inr (Or.inr (Or.inr (Or.inr (Or.inr (Or.inr (Or.inl (s_pin h (by decide))))))))))))))))))))))))
  · exact Or.inr (Or.inr (Or.inr (Or.inr (Or.inr (Or.inr (Or.inr (Or.inr (Or.inr (Or.inr (Or.inr (Or.inr (Or.inr (Or.inr (Or.inr (Or.inr (Or.inr (Or.inr (Or.inr (Or.inr (Or.inr (Or.inr (Or.inr (Or.inl (s_pin h (by decide)))))))))))))))))))))))))
  · exact Or.inr (Or.inr (Or.inr (Or.inr (Or.inr (Or.inr (Or.inr (Or.inr (Or.inr (Or.inr (Or.inr (Or.inr (Or.inr (Or.inr (Or.inr (Or.inr (Or.inr (Or.inr (Or.inr (Or.inr (Or.inr (Or.inr (Or.inr (Or.inr (Or.inl (s_pin h (by decide))))))))))))))))))))))))))
  · exact Or.inr (Or.inr (Or.inr (Or.inr (Or.inr (Or.inr (Or.inr (Or.inr (Or.inr (Or.inr (Or.inr (Or.inr (Or.inr (Or.inr (Or.inr (Or.inr (Or.inr (Or.inr (Or.inr (Or.inr (Or.inr (Or.inr (Or.inr (Or.inr (Or.inr (Or.inl (s_pin h (by decide)))))))))))))))))))))))))))
  · exact Or.inr (Or.inr (Or.inr (Or.inr (Or.inr (Or.inr (Or.inr (Or.inr (Or.inr (Or.inr (Or.inr (Or.inr (Or.inr (Or.inr (Or.inr (Or.inr (Or.inr (Or.inr (Or.inr (Or.inr (Or.inr (Or.inr (Or.inr (Or.inr (Or.inr (Or.inr (Or.inl (s_pin h (by decide))))))))))))))))))))))))))))
  · exact Or.inr (Or.inr (Or.inr (Or.inr (Or.inr (Or.inr (Or.inr (Or.inr (Or.inr (Or.inr (Or.inr (Or.inr (Or.inr (Or.inr (Or.inr (Or.inr (Or.inr (Or.inr (Or.inr (Or.inr (Or.inr (Or.inr (Or.inr (Or.inr (Or.inr (Or.inr (Or.inr (Or.inl (s_pin h (by decide)))))))))))))))))))))))))))))
  · exact Or.inr (Or.inr (Or.inr (Or.inr (Or.inr (Or.inr (Or.inr (Or.inr (Or.inr (Or.inr (Or.inr (Or.inr (Or.inr (Or.inr (Or.inr (Or.inr (Or.inr (Or.inr (Or.inr (Or.inr (Or.inr (Or.inr (Or.inr (Or.inr (Or.inr (Or.inr (Or.inr (Or.inr (Or.inl (s_pin h (by decide))))))))))))))))))))))))))))))
  · exact Or.inr (Or.inr (Or.inr (Or.inr (Or.inr (Or.inr (Or.inr (Or.inr (Or.inr (Or.inr (Or.inr (Or.inr (Or.inr (Or.inr (Or.inr (Or.inr (Or.inr (Or.inr (Or.inr (Or.inr (Or.inr (Or.inr (Or.inr (Or.inr (Or.inr (Or.inr (Or.inr (Or.inr (Or.inr (Or.inl (s_pin h (by decide)))))))))))))))))))))))))))))))
  · exact Or.inr (Or.inr (Or.inr (Or.inr (Or.inr (Or.inr (Or.inr (Or.inr (Or.inr (Or.inr (Or.inr (Or.inr (Or.inr (Or.inr (Or.inr (Or.inr (Or.inr (Or.inr (Or.inr (Or.inr (Or.inr (Or.inr (Or.inr (Or.inr (Or.inr (Or.inr (Or.inr (Or.inr (Or.inr (Or.inr (Or.inl (s_pin h (by decide))))))))))))))))))))))))))))))))
  · exact Or.inr (Or.inr (Or.inr (Or.inr (Or.inr (Or.inr (Or.inr (Or.inr (Or.inr (Or.inr (Or.inr (Or.inr (Or.inr (Or.inr (Or.inr (Or.inr (Or.inr (Or.inr (Or.inr (Or.inr (Or.inr (Or.inr (Or.inr (Or.inr (Or.inr (Or.inr (Or.inr (Or.inr (Or.inr (Or.inr (Or.inr (Or.inl (s_pin h (by decide)))))))))))))))))))))))))))))))))
  · exact Or.inr (Or.inr (Or.inr (Or.inr (Or.inr (Or.inr (Or.inr (Or.inr (Or.inr (Or.inr (Or.inr (Or.inr (Or.inr (Or.inr (Or.inr (Or.inr (Or.inr (Or.inr (Or.inr (Or.inr (Or.inr (Or.inr (Or.inr (Or.inr (Or.inr (Or.inr (Or.inr (Or.inr (Or.inr (Or.inr (Or.inr (Or.inr (Or.inl (s_pin h (by decide))))))))))))))))))))))))))))))))))
  · exact Or.inr (Or.inr (Or.inr (Or.inr (Or.inr (Or.inr (Or.inr (Or.inr (Or.inr (Or.inr (Or.inr (Or.inr (Or.inr (Or.inr (Or.inr (Or.inr (Or.inr (Or.inr (Or.inr (Or.inr (Or.inr (Or.inr (Or.inr (Or.inr (Or.inr (Or.inr (Or.inr (Or.inr (Or.inr (Or.inr (Or.inr (Or.inr (Or.inr (s_pin h (by decide))))))))))))))))))))))))))))))))))

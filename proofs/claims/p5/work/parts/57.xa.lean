/-! WHAT A BOOK SAYS, as a function of the text: LINE by LINE. -/
noncomputable section
def qVe (x : qX) (p : Int) : Int := if qisw x p (qrw 15) = true then 6 else if qisw x p (qrw 16) = true then 7 else if qisw x p (qrw 17) = true then 8 else if qisw x p (qrw 18) = true then 9 else -1
def qVd (x : qX) (p : Int) : Int := if qisw x p (qrw 9) = true then 0 else if qisw x p (qrw 10) = true then 1 else if qisw x p (qrw 11) = true then 2 else if qisw x p (qrw 12) = true then 3 else if qisw x p (qrw 14) = true then 4 else if qisw x p (qrw 13) = true then 5 else -1
section QBK
variable (x : qX) (nm : Int → Int) (m1 m2 : Int)
def qOw (p : Int) : Int × Int := if qlf x nm 6 m1 p < 0 then (-(qlf x nm 6 m1 p), p) else (0, qnx x.1 x.2.1 p)
def qRm (p : Int) : Int × Int := if qlf x nm 12 m2 p < 0 then (-(qlf x nm 12 m2 p), p) else (0, qnx x.1 x.2.1 p)
def qD2 (v p : Int) : Int × Int := if v = 5 then (0, p) else if v < 2 then (if ¬ (qRm x nm m2 p).1 = 0 then qRm x nm m2 p else if v = 0 then qRm x nm m2 p else qOw x nm m1 (qRm x nm m2 p).2) else qOw x nm m1 p
def qNu (v p : Int) : Int × Int := if ¬ qkd x.1 x.2.1 x.2.2 p = 2 then (1, p) else if (if v = 9 then 1 else 0) ≤ qvl x.1 x.2.1 p ∧ qvl x.1 x.2.1 p ≤ (if v = 9 then 60 else 19) then (0, qnx x.1 x.2.1 p) else (2, p)
/-- a LINE: the kind of the FAULT, the place -/
def qLn (n p : Int) : Int × Int := if 0 ≤ qVe x p then (if n = 40 then (4, p) else if qVe x p = 8 then qRm x nm m2 (qnx x.1 x.2.1 p) else qNu x (qVe x p) (qnx x.1 x.2.1 p)) else if ¬ (qOw x nm m1 p).1 = 0 then qOw x nm m1 p else if n = 40 then (4, p) else if qVd x (qnx x.1 x.2.1 p) < 0 then (1, qnx x.1 x.2.1 p) else qD2 x nm m1 m2 (qVd x (qnx x.1 x.2.1 p)) (qnx x.1 x.2.1 (qnx x.1 x.2.1 p))
def qBk : Nat → Int → Int → qA
  | 0, n, p => (0, p, n)
  | k + 1, n, p => if qkd x.1 x.2.1 x.2.2 p = 0 then (0, p, n) else if ¬ (qLn x nm m1 m2 n p).1 = 0 then ((qLn x nm m1 m2 n p).1, (qLn x nm m1 m2 n p).2, n) else if qsn x (qLn x nm m1 m2 n p).2 59 = true then qBk k (n + 1) (qnx x.1 x.2.1 (qLn x nm m1 m2 n p).2) else (1, (qLn x nm m1 m2 n p).2, n)
end QBK
/-- a row of the reference's that can be lived -/
def rRow (R : Int → Int) (i : Int) : Prop := (R (4 * i) = 0 ∧ (0 ≤ R (4 * i + 1) ∧ R (4 * i + 1) ≤ 5) ∧ 0 ≤ R (4 * i + 2) ∧ R (4 * i + 2) ≤ 11) ∨ (R (4 * i) = 1 ∧ (0 ≤ R (4 * i + 1) ∧ R (4 * i + 1) ≤ 5) ∧ (0 ≤ R (4 * i + 2) ∧ R (4 * i + 2) ≤ 11) ∧ 0 ≤ R (4 * i + 3) ∧ R (4 * i + 3) ≤ 5) ∨ ((2 ≤ R (4 * i) ∧ R (4 * i) ≤ 4) ∧ (0 ≤ R (4 * i + 1) ∧ R (4 * i + 1) ≤ 5) ∧ 0 ≤ R (4 * i + 3) ∧ R (4 * i + 3) ≤ 5) ∨ (R (4 * i) = 5 ∧ 0 ≤ R (4 * i + 1) ∧ R (4 * i + 1) ≤ 5) ∨ ((6 ≤ R (4 * i) ∧ R (4 * i) ≤ 7) ∧ 0 ≤ R (4 * i + 1) ∧ R (4 * i + 1) ≤ 19) ∨ (R (4 * i) = 8 ∧ 0 ≤ R (4 * i + 1) ∧ R (4 * i + 1) ≤ 11) ∨ (R (4 * i) = 9 ∧ 1 ≤ R (4 * i + 1) ∧ R (4 * i + 1) ≤ 60)
end
section QBL
variable {x : qX} {nm : Int → Int} {m1 m2 p : Int}
theorem qVe_15  (h : qisw x p (qrw 15) = true) : qVe x p = 6 := if_pos h
theorem qVe_16 (n15 : ¬ qisw x p (qrw 15) = true) (h : qisw x p (qrw 16) = true) : qVe x p = 7 := (if_neg n15).trans (if_pos h)
theorem qVe_17 (n15 : ¬ qisw x p (qrw 15) = true) (n16 : ¬ qisw x p (qrw 16) = true) (h : qisw x p (qrw 17) = true) : qVe x p = 8 := (if_neg n15).trans ((if_neg n16).trans (if_pos h))
theorem qVe_18 (n15 : ¬ qisw x p (qrw 15) = true) (n16 : ¬ qisw x p (qrw 16) = true) (n17 : ¬ qisw x p (qrw 17) = true) (h : qisw x p (qrw 18) = true) : qVe x p = 9 := (if_neg n15).trans ((if_neg n16).trans ((if_neg n17).trans (if_pos h)))
theorem qVe_n (n15 : ¬ qisw x p (qrw 15) = true) (n16 : ¬ qisw x p (qrw 16) = true) (n17 : ¬ qisw x p (qrw 17) = true) (n18 : ¬ qisw x p (qrw 18) = true) : qVe x p = -1 := (if_neg n15).trans ((if_neg n16).trans ((if_neg n17).trans (if_neg n18)))
theorem qVd_9  (h : qisw x p (qrw 9) = true) : qVd x p = 0 := if_pos h
theorem qVd_10 (n9 : ¬ qisw x p (qrw 9) = true) (h : qisw x p (qrw 10) = true) : qVd x p = 1 := (if_neg n9).trans (if_pos h)
theorem qVd_11 (n9 : ¬ qisw x p (qrw 9) = true) (n10 : ¬ qisw x p (qrw 10) = true) (h : qisw x p (qrw 11) = true) : qVd x p = 2 := (if_neg n9).trans ((if_neg n10).trans (if_pos h))
theorem qVd_12 (n9 : ¬ qisw x p (qrw 9) = true) (n10 : ¬ qisw x p (qrw 10) = true) (n11 : ¬ qisw x p (qrw 11) = true) (h : qisw x p (qrw 12) = true) : qVd x p = 3 := (if_neg n9).trans ((if_neg n10).trans ((if_neg n11).trans (if_pos h)))
theorem qVd_14 (n9 : ¬ qisw x p (qrw 9) = true) (n10 : ¬ qisw x p (qrw 10) = true) (n11 : ¬ qisw x p (qrw 11) = true) (n12 : ¬ qisw x p (qrw 12) = true) (h : qisw x p (qrw 14) = true) : qVd x p = 4 := (if_neg n9).trans ((if_neg n10).trans ((if_neg n11).trans ((if_neg n12).trans (if_pos h))))
theorem qVd_13 (n9 : ¬ qisw x p (qrw 9) = true) (n10 : ¬ qisw x p (qrw 10) = true) (n11 : ¬ qisw x p (qrw 11) = true) (n12 : ¬ qisw x p (qrw 12) = true) (n14 : ¬ qisw x p (qrw 14) = true) (h : qisw x p (qrw 13) = true) : qVd x p = 5 := (if_neg n9).trans ((if_neg n10).trans ((if_neg n11).trans ((if_neg n12).trans ((if_neg n14).trans (if_pos h)))))
theorem qVd_n (n9 : ¬ qisw x p (qrw 9) = true) (n10 : ¬ qisw x p (qrw 10) = true) (n11 : ¬ qisw x p (qrw 11) = true) (n12 : ¬ qisw x p (qrw 12) = true) (n14 : ¬ qisw x p (qrw 14) = true) (n13 : ¬ qisw x p (qrw 13) = true) : qVd x p = -1 := (if_neg n9).trans ((if_neg n10).trans ((if_neg n11).trans ((if_neg n12).trans ((if_neg n14).trans (if_neg n13)))))
theorem qlf_b (m : Int) (a : Int) (hm : 0 ≤ m) : -3 ≤ qlf x nm a m p ∧ (qlf x nm a m p < m ∨ qlf x nm a m p < 0) ∧ ¬ (qlf x nm a m p < 0 ∧ -(qlf x nm a m p) = 0) := by
  have e := qfd_b (f := nm) (a := a) (x := qwd x.1 x.2.1 p) (m := m) hm
  rw [qlf_eq]
  split
  · split <;> omega
  · omega
theorem qOw_f (h : qlf x nm 6 m1 p < 0) : qOw x nm m1 p = (-(qlf x nm 6 m1 p), p) := if_pos h
theorem qOw_s (h : 0 ≤ qlf x nm 6 m1 p) : qOw x nm m1 p = (0, qnx x.1 x.2.1 p) := if_neg (by omega)
theorem qRm_f (h : qlf x nm 12 m2 p < 0) : qRm x nm m2 p = (-(qlf x nm 12 m2 p), p) := if_pos h
theorem qRm_s (h : 0 ≤ qlf x nm 12 m2 p) : qRm x nm m2 p = (0, qnx x.1 x.2.1 p) := if_neg (by omega)
theorem qNu_1 {v : Int} (h : ¬ qkd x.1 x.2.1 x.2.2 p = 2) : qNu x v p = (1, p) := if_pos h
theorem qNu_2 {v : Int} (h : qkd x.1 x.2.1 x.2.2 p = 2) (h2 : ¬ ((if v = 9 then 1 else 0) ≤ qvl x.1 x.2.1 p ∧ qvl x.1 x.2.1 p ≤ (if v = 9 then 60 else 19))) : qNu x v p = (2, p) := (if_neg (fun q => q h)).trans (if_neg h2)
theorem qNu_s {v : Int} (h : qkd x.1 x.2.1 x.2.2 p = 2) (h2 : (if v = 9 then 1 else 0) ≤ qvl x.1 x.2.1 p ∧ qvl x.1 x.2.1 p ≤ (if v = 9 then 60 else 19)) : qNu x v p = (0, qnx x.1 x.2.1 p) := (if_neg (fun q => q h)).trans (if_pos h2)
theorem qLn_4 {n : Int} (h : 0 ≤ qVe x p) (hn : n = 40) : qLn x nm m1 m2 n p = (4, p) := (if_pos h).trans (if_pos hn)
theorem qLn_r {n : Int} (h : qVe x p = 8) (hn : ¬ n = 40) : qLn x nm m1 m2 n p = qRm x nm m2 (qnx x.1 x.2.1 p) := (if_pos (by omega)).trans ((if_neg hn).trans (if_pos h))
theorem qLn_n {n : Int} (h : 0 ≤ qVe x p ∧ ¬ qVe x p = 8) (hn : ¬ n = 40) : qLn x nm m1 m2 n p = qNu x (qVe x p) (qnx x.1 x.2.1 p) := (if_pos h.1).trans ((if_neg hn).trans (if_neg h.2))
theorem qLn_o {n : Int} (h : qVe x p = -1) (ho : qlf x nm 6 m1 p < 0) (hm : 0 ≤ m1) : qLn x nm m1 m2 n p = (-(qlf x nm 6 m1 p), p) := (if_neg (by omega)).trans ((if_pos (by rw [qOw_f ho]; exact fun q => (qlf_b m1 6 hm).2.2 ⟨ho, q⟩)).trans (qOw_f ho))
theorem qLn_4o {n : Int} (h : qVe x p = -1) (ho : 0 ≤ qlf x nm 6 m1 p) (hn : n = 40) : qLn x nm m1 m2 n p = (4, p) := (if_neg (by omega)).trans ((if_neg (by rw [qOw_s ho]; exact fun q => q rfl)).trans (if_pos hn))
theorem qLn_1 {n : Int} (h : qVe x p = -1) (ho : 0 ≤ qlf x nm 6 m1 p) (hn : ¬ n = 40) (hd : qVd x (qnx x.1 x.2.1 p) = -1) : qLn x nm m1 m2 n p = (1, qnx x.1 x.2.1 p) := (if_neg (by omega)).trans ((if_neg (by rw [qOw_s ho]; exact fun q => q rfl)).trans ((if_neg hn).trans (if_pos (by omega))))
theorem qLn_d {n v : Int} (h : qVe x p = -1) (ho : 0 ≤ qlf x nm 6 m1 p) (hn : ¬ n = 40) (hd : qVd x (qnx x.1 x.2.1 p) = v) (hv : 0 ≤ v) : qLn x nm m1 m2 n p = qD2 x nm m1 m2 v (qnx x.1 x.2.1 (qnx x.1 x.2.1 p)) := by
  subst hd
  exact (if_neg (by omega)).trans ((if_neg (by rw [qOw_s ho]; exact fun q => q rfl)).trans ((if_neg hn).trans (if_neg (by omega))))
theorem qD2_5 : qD2 x nm m1 m2 5 p = (0, p) := if_pos rfl
theorem qD2_rf {v : Int} (h : 0 ≤ v ∧ v < 2) (hr : qlf x nm 12 m2 p < 0) (hm : 0 ≤ m2) : qD2 x nm m1 m2 v p = (-(qlf x nm 12 m2 p), p) := (if_neg (by omega)).trans ((if_pos h.2).trans ((if_pos (by rw [qRm_f hr]; exact fun q => (qlf_b m2 12 hm).2.2 ⟨hr, q⟩)).trans (qRm_f hr)))
theorem qD2_0 (hr : 0 ≤ qlf x nm 12 m2 p) : qD2 x nm m1 m2 0 p = (0, qnx x.1 x.2.1 p) := (if_neg (by decide)).trans ((if_pos (by decide)).trans ((if_neg (by rw [qRm_s hr]; exact fun q => q rfl)).trans ((if_pos rfl).trans (qRm_s hr))))
theorem qD2_1 (hr : 0 ≤ qlf x nm 12 m2 p) : qD2 x nm m1 m2 1 p = qOw x nm m1 (qnx x.1 x.2.1 p) := (if_neg (by decide)).trans ((if_pos (by decide)).trans ((if_neg (by rw [qRm_s hr]; exact fun q => q rfl)).trans ((if_neg (by decide)).trans (by rw [qRm_s hr]))))
theorem qD2_o {v : Int} (h : 2 ≤ v ∧ v < 5) : qD2 x nm m1 m2 v p = qOw x nm m1 p := (if_neg (by omega)).trans (if_neg (by omega))
end QBL

/-! what note writes -/
theorem kp_le {x f : Nat} (hx : x < 2 ^ 20) (hf : f < 2 ^ 20) : kp_ x ≤ nI f ↔ x ≤ f + 1 := by
  rcases Nat.eq_zero_or_pos x with z | z
  · subst z
    exact ⟨fun _ => Nat.zero_le _, fun _ => by rw [Int32.le_iff_toInt_le, nI_toInt (by omega), show (kp_ 0).toInt = -1 by decide +kernel]; omega⟩
  · rw [kp_nat z, nI_leI (by omega) (by omega)]
    omega
theorem kp_le_n {x : Nat} (hx : x < 2 ^ 20) : kp_ x ≤ (-1) ↔ x = 0 := by
  rcases Nat.eq_zero_or_pos x with z | z
  · subst z
    exact ⟨fun _ => rfl, fun _ => by decide⟩
  · rw [kp_nat z, Int32.le_iff_toInt_le, nI_toInt (by omega), show ((-1) : Int32).toInt = -1 by decide +kernel]
    omega
section PN
variable (kd wd sr od sk ru me si : Nat → Int32) (cn mn ps : Nat) (br : Nat → Nat)
/-- where the line from a to b begins -/
def qn_bg (a b : Nat) : Nat := if a = 0 then 0 else pr_bg kd od (br (b - 1)) (br (a - 1))
/-- the rows of line k of the way -/
def pn_row (N b z : Nat) (mr : Nat → Int32) (mq : Nat → Int64) (k : Nat) : Prop :=
  mr (4 * k - 4) = nI (qn_bg kd od br (qt_b (qr_X kd wd sr od sk ru me si cn mn ps br) N b z (k - 1)) (qt_b (qr_X kd wd sr od sk ru me si cn mn ps br) N b z k)) ∧ mr (4 * k - 3) = nI (br (qt_b (qr_X kd wd sr od sk ru me si cn mn ps br) N b z k - 1)) ∧ mr (4 * k - 2) = qr_B kd wd sr od sk me si cn mn br k (qt_b (qr_X kd wd sr od sk ru me si cn mn ps br) N b z (k - 1)) (qt_b (qr_X kd wd sr od sk ru me si cn mn ps br) N b z k) ∧ mr (4 * k - 1) = nI (qr_C kd wd sr od sk me si cn mn br k (qt_b (qr_X kd wd sr od sk ru me si cn mn ps br) N b z (k - 1)) (qt_b (qr_X kd wd sr od sk ru me si cn mn ps br) N b z k)) ∧ mq k = qr_O kd wd sr od sk me si cn mn br k (qt_b (qr_X kd wd sr od sk ru me si cn mn ps br) N b z (k - 1)) (qt_b (qr_X kd wd sr od sk ru me si cn mn ps br) N b z k)
end PN
section PN2
variable {kd wd sr od sk ru me si : Nat → Int32} {cn mn ps : Nat} {br : Nat → Nat} {N b z : Nat} {mr m1 m2 m3 m4 : Nat → Int32} {mq : Nat → Int64} {v1 v2 v3 v4 : Int32} {v5 : Int64}
theorem pn_step {n : Nat} (hn : 1 ≤ n) (h : ∀ k, n < k → k ≤ N → pn_row kd wd sr od sk ru me si cn mn ps br N b z mr mq k) (e1 : v1 = nI (qn_bg kd od br (qt_b (qr_X kd wd sr od sk ru me si cn mn ps br) N b z (n - 1)) (qt_b (qr_X kd wd sr od sk ru me si cn mn ps br) N b z n))) (e2 : v2 = nI (br (qt_b (qr_X kd wd sr od sk ru me si cn mn ps br) N b z n - 1))) (e3 : v3 = qr_B kd wd sr od sk me si cn mn br n (qt_b (qr_X kd wd sr od sk ru me si cn mn ps br) N b z (n - 1)) (qt_b (qr_X kd wd sr od sk ru me si cn mn ps br) N b z n)) (e4 : v4 = nI (qr_C kd wd sr od sk me si cn mn br n (qt_b (qr_X kd wd sr od sk ru me si cn mn ps br) N b z (n - 1)) (qt_b (qr_X kd wd sr od sk ru me si cn mn ps br) N b z n))) (e5 : v5 = qr_O kd wd sr od sk me si cn mn br n (qt_b (qr_X kd wd sr od sk ru me si cn mn ps br) N b z (n - 1)) (qt_b (qr_X kd wd sr od sk ru me si cn mn ps br) N b z n)) :
    ∀ k, n - 1 < k → k ≤ N → pn_row kd wd sr od sk ru me si cn mn ps br N b z (upd (upd (upd (upd mr (4 * n - 4) v1) (4 * n - 3) v2) (4 * n - 2) v3) (4 * n - 1) v4) (vp_updL mq n v5) k := by
  intro k h1 h2
  by_cases e : k = n
  · subst e
    unfold pn_row
    simp only [upd, pm_upd]
    refine ⟨?_, ?_, ?_, ?_, ?_⟩
    · rw [if_neg (by omega), if_neg (by omega), if_neg (by omega), if_pos trivial]; exact e1
    · rw [if_neg (by omega), if_neg (by omega), if_pos trivial]; exact e2
    · rw [if_neg (by omega), if_pos trivial]; exact e3
    · rw [if_pos trivial]; exact e4
    · rw [if_pos trivial]; exact e5
  · have h3 := h k (by omega) h2
    unfold pn_row at h3 ⊢
    simp only [upd, pm_upd]
    obtain ⟨a1, a2, a3, a4, a5⟩ := h3
    refine ⟨?_, ?_, ?_, ?_, ?_⟩
    · rw [if_neg (by omega), if_neg (by omega), if_neg (by omega), if_neg (by omega)]; exact a1
    · rw [if_neg (by omega), if_neg (by omega), if_neg (by omega), if_neg (by omega)]; exact a2
    · rw [if_neg (by omega), if_neg (by omega), if_neg (by omega), if_neg (by omega)]; exact a3
    · rw [if_neg (by omega), if_neg (by omega), if_neg (by omega), if_neg (by omega)]; exact a4
    · rw [if_neg (by omega)]; exact a5
end PN2

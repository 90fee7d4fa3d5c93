/-! the way, line by line; the third pass finds one -/
section QV
variable {d : kj_D} {kd wd sr od sk ru me si : Nat → Int32} {cn mn ps : Nat} {br : Nat → Nat} {B : Nat}
theorem qv_d (N b z : Nat) : ∀ k, qt_d (qm_X kd wd sr od sk ru me si cn mn ps br) N b z k = qt_d (qr_X kd wd sr od sk ru me si cn mn ps br) N b z k
  | 0 => rfl
  | k + 1 => by
    have ih := qv_d N b z k
    simp only [qt_d, ih]
    unfold qm_X
    cases (qr_X kd wd sr od sk ru me si cn mn ps br) (N - k) (qt_d (qr_X kd wd sr od sk ru me si cn mn ps br) N b z k).1 (qt_d (qr_X kd wd sr od sk ru me si cn mn ps br) N b z k).2 <;> rfl
theorem qv_b (N b z k : Nat) : qt_b (qm_X kd wd sr od sk ru me si cn mn ps br) N b z k = qt_b (qr_X kd wd sr od sk ru me si cn mn ps br) N b z k := congrArg Prod.fst (qv_d N b z (N - k))
/-- line k of the way, and what the ways have in all -/
theorem qv_line {N z k : Nat} (hB : B ≤ 400) (h : ql_H d kd wd sr od sk ru me si cn mn ps br B) (hw : ∃ y, (qr_X kd wd sr od sk ru me si cn mn ps br) N B z = some y) (h1 : 1 ≤ k) (h2 : k ≤ N) : ∃ v w : qx_V, (∃ q, (qr_X kd wd sr od sk ru me si cn mn ps br) k (qt_b (qr_X kd wd sr od sk ru me si cn mn ps br) N B z k) (qt_z (qr_X kd wd sr od sk ru me si cn mn ps br) N B z k) = some (q, v)) ∧ (∃ q, (qr_X kd wd sr od sk ru me si cn mn ps br) (k - 1) (qt_b (qr_X kd wd sr od sk ru me si cn mn ps br) N B z (k - 1)) (qt_z (qr_X kd wd sr od sk ru me si cn mn ps br) N B z (k - 1)) = some (q, w)) ∧ qt_b (qr_X kd wd sr od sk ru me si cn mn ps br) N B z (k - 1) < qt_b (qr_X kd wd sr od sk ru me si cn mn ps br) N B z k ∧ qt_b (qr_X kd wd sr od sk ru me si cn mn ps br) N B z k ≤ B ∧ kj_C d k (qt_b (qr_X kd wd sr od sk ru me si cn mn ps br) N B z (k - 1)) (qt_b (qr_X kd wd sr od sk ru me si cn mn ps br) N B z k) = qt_z (qr_X kd wd sr od sk ru me si cn mn ps br) N B z k ∧ v.1 = w.1 + kj_O d k (qt_b (qr_X kd wd sr od sk ru me si cn mn ps br) N B z (k - 1)) (qt_b (qr_X kd wd sr od sk ru me si cn mn ps br) N B z k) ∧ v.2.1 = w.2.1 + nI (pm_ab (kj_B d k (qt_b (qr_X kd wd sr od sk ru me si cn mn ps br) N B z (k - 1)) (qt_b (qr_X kd wd sr od sk ru me si cn mn ps br) N B z k)) (d.ru 1)) ∧ v.2.2 = w.2.2 + (kj_m d k (qt_b (qr_X kd wd sr od sk ru me si cn mn ps br) N B z (k - 1)) (qt_b (qr_X kd wd sr od sk ru me si cn mn ps br) N B z k) + (if pm_adj (kj_C d k (qt_b (qr_X kd wd sr od sk ru me si cn mn ps br) N B z (k - 1)) (qt_b (qr_X kd wd sr od sk ru me si cn mn ps br) N B z k)) (qt_z (qr_X kd wd sr od sk ru me si cn mn ps br) N B z (k - 1)) then (d.ru 5).toInt64 else 0)) := by
  obtain ⟨p, v, w, q, a1, a2, a3, a4, a5, a6, a7, a8⟩ := qt_ok hB hw h1 h2
  refine ⟨v, w, ⟨p, a1⟩, ⟨q, a2⟩, a5, a6, ?_, ?_, ?_, ?_⟩
  · rw [← ql_cl h h1 a5 a6] at a7
    unfold kj_cl at a7
    split at a7
    · exact Option.some.inj a7
    · cases a7
  · rw [a8, ql_O h h1 a5 a6]; rfl
  · rw [a8, ql_B h h1 a5 a6, h.hru 1 (by decide)]; rfl
  · rw [a8, ql_dm h h1 a5 a6]; rfl
/-- in the third pass there is a way of as many lines as breaks -/
theorem qv_3 (h3 : ps = 3) : ∀ n, n ≤ 400 → ∃ z y, z < 4 ∧ (qr_X kd wd sr od sk ru me si cn mn ps br) n n z = some y
  | 0, _ => ⟨2, (0, (0, 0, 0)), by omega, rfl⟩
  | n + 1, hn => by
    obtain ⟨z, y, hz, hy⟩ := qv_3 h3 n (by omega)
    have hcl : qr_cl kd wd sr od sk ru me si cn mn ps br (n + 1) n (n + 1) = some (qr_C kd wd sr od sk me si cn mn br (n + 1) n (n + 1)) := by
      unfold qr_cl
      rw [if_pos ⟨fun x h1 h2 => absurd h1 (by omega), Or.inl h3⟩]
    have hC : qr_C kd wd sr od sk me si cn mn br (n + 1) n (n + 1) < 4 := Nat.lt_succ_of_le (pm_lc_le _ _ _ _)
    have hi := qr_is (kd := kd) (wd := wd) (sr := sr) (od := od) (sk := sk) (ru := ru) (me := me) (si := si) (cn := cn) (mn := mn) (ps := ps) (br := br) n (n + 1) (qr_C kd wd sr od sk me si cn mn br (n + 1) n (n + 1)) hn
    cases hx : (qr_X kd wd sr od sk ru me si cn mn ps br) (n + 1) (n + 1) (qr_C kd wd sr od sk me si cn mn br (n + 1) n (n + 1)) with
    | some w => exact ⟨_, w, hC, hx⟩
    | none =>
      rw [hx] at hi
      have := hi (4 * n + z) (by omega)
      unfold qx_K at this
      rw [show (4 * n + z) / 4 = n by omega, show (4 * n + z) % 4 = z by omega, if_pos hcl, hy] at this
      cases this
theorem qv_33 {s0 : pe_S} (h3 : ps = 3) (h0 : s0.1 = 0) (hb : 1 ≤ B) (hB : B ≤ 400) : 0 < (pg_E kd wd sr od sk ru me si cn mn ps br B 0 s0 B).1 := by
  obtain ⟨r, g1, g2⟩ := qf_E0 (kd := kd) (wd := wd) (sr := sr) (od := od) (sk := sk) (ru := ru) (me := me) (si := si) (cn := cn) (mn := mn) (ps := ps) (br := br) (bk := B) (s0 := s0) h0 hb B
  cases r with
  | some y => have := g1.1; omega
  | none =>
    obtain ⟨z, y, hz, hy⟩ := qv_3 (kd := kd) (wd := wd) (sr := sr) (od := od) (sk := sk) (ru := ru) (me := me) (si := si) (cn := cn) (mn := mn) (br := br) h3 B hB
    have : ((qr_X kd wd sr od sk ru me si cn mn ps br) ((4 * (B - 1) + z) / 4 + 1) B ((4 * (B - 1) + z) % 4)).map Prod.snd = none := g2 (4 * (B - 1) + z) (by omega)
    rw [show (4 * (B - 1) + z) / 4 + 1 = B by omega, show (4 * (B - 1) + z) % 4 = z by omega, hy] at this
    cases this
/-- the trail -/
theorem qv_tr {bk : Nat → Int32} {pl : Nat} : ∀ (n l b z : Nat), kt_ok bk pl (qm_X kd wd sr od sk ru me si cn mn ps br) n l b z → b * 4 + z < pl ∨ n = 0
  | 0, _, _, _, _ => Or.inr rfl
  | _ + 1, _, _, _, h => Or.inl h.2.1
end QV

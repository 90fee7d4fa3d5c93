/-! the reference's end -/
def qf_R (s : pe_S) (r : Option (Nat × qx_V)) : Prop := match r with
  | none => s.1 = 0
  | some z => s.1 = z.1 / 4 + 1 ∧ s.2.1 = z.1 % 4 ∧ (s.2.2.1, s.2.2.2.1, s.2.2.2.2) = z.2
theorem qf_bt {ps el : Nat} {x : qx_V} {eo ed : Int64} {eb : Int32} : pe_bt el ps x.1 eo x.2.1 eb x.2.2 ed ↔ (el = 0 ∨ qx_lt ps x (eo, eb, ed)) := by
  unfold pe_bt qx_lt
  simp only [Int64.not_le, Int32.not_le]
  by_cases h : el = 0
  · rw [if_pos h]; exact ⟨fun _ => Or.inl h, fun _ => trivial⟩
  · rw [if_neg h]; exact ⟨Or.inr, fun q => q.resolve_left h⟩
theorem qf_go {ps n : Nat} {E K : Nat → Option qx_V} {s0 : pe_S} {r0 : Option (Nat × qx_V)} (hn : 1 ≤ n) (h0 : qf_R s0 r0) (hq : qb_is (qx_lt ps) K (4 * (n - 1)) r0) (hE : ∀ z, z < 4 → E z = K (4 * (n - 1) + z)) : ∀ m, m ≤ 4 → ∃ r, qf_R (pe_go ps n E s0 m) r ∧ qb_is (qx_lt ps) K (4 * (n - 1) + m) r
  | 0, _ => ⟨r0, h0, hq⟩
  | m + 1, hm => by
    obtain ⟨r, g1, g2⟩ := qf_go hn h0 hq hE m (by omega)
    have hk := hE m (by omega)
    cases he : E m with
    | none =>
      refine ⟨r, ?_, qb_n g2 (hk.symm.trans he)⟩
      have e : pe_go ps n E s0 (m + 1) = pe_go ps n E s0 m := by simp only [pe_go, he]
      rw [e]; exact g1
    | some x =>
      by_cases hb : pe_bt (pe_go ps n E s0 m).1 ps x.1 (pe_go ps n E s0 m).2.2.1 x.2.1 (pe_go ps n E s0 m).2.2.2.1 x.2.2 (pe_go ps n E s0 m).2.2.2.2
      · have e : pe_go ps n E s0 (m + 1) = (n, m, x.1, x.2.1, x.2.2) := by simp only [pe_go, he]; rw [if_pos hb]
        refine ⟨some (4 * (n - 1) + m, x), ?_, ?_⟩
        · rw [e]
          exact ⟨by show n = (4 * (n - 1) + m) / 4 + 1; omega, by show m = (4 * (n - 1) + m) % 4; omega, rfl⟩
        · cases r with
          | none => exact qb_f (qx_O ps) g2 (hk.symm.trans he)
          | some z =>
            obtain ⟨k1, k2, k3⟩ := g1
            rcases qf_bt.mp hb with q | q
            · omega
            · rw [k3] at q
              exact qb_b (i := z.1) (z := z.2) (qx_O ps) g2 (hk.symm.trans he) q
      · have e : pe_go ps n E s0 (m + 1) = pe_go ps n E s0 m := by simp only [pe_go, he]; rw [if_neg hb]
        refine ⟨r, by rw [e]; exact g1, ?_⟩
        cases r with
        | none => exact absurd (qf_bt.mpr (Or.inl g1)) hb
        | some z =>
          obtain ⟨k1, k2, k3⟩ := g1
          refine qb_k (i := z.1) (z := z.2) g2 (hk.symm.trans he) (fun q => hb (qf_bt.mpr (Or.inr ?_)))
          rw [k3]; exact q
section QF
variable {kd wd sr od sk ru me si : Nat → Int32} {cn mn ps : Nat} {br : Nat → Nat} {bk : Nat} {s0 : pe_S}
def qf_K (kd wd sr od sk ru me si : Nat → Int32) (cn mn ps : Nat) (br : Nat → Nat) (bk i : Nat) : Option qx_V := (qr_X kd wd sr od sk ru me si cn mn ps br (i / 4 + 1) bk (i % 4)).map Prod.snd
theorem qf_E0 (h0 : s0.1 = 0) (hb : 1 ≤ bk) : ∀ N, ∃ r, qf_R (pg_E kd wd sr od sk ru me si cn mn ps br bk 0 s0 N) r ∧ qb_is (qx_lt ps) (qf_K kd wd sr od sk ru me si cn mn ps br bk) (4 * N) r
  | 0 => ⟨none, h0, qb_0⟩
  | N + 1 => by
    obtain ⟨r, g1, g2⟩ := qf_E0 h0 hb N
    have e : pg_E kd wd sr od sk ru me si cn mn ps br bk 0 s0 (N + 1) = pe_go ps (N + 1) (fun c => pg_v (pg_T kd wd sr od sk ru me si cn mn ps br (N + 1) (bk - 1) c)) (pg_E kd wd sr od sk ru me si cn mn ps br bk 0 s0 N) 4 := by
      show (if (0 : Nat) = 0 ∨ N + 1 = 0 then _ else _) = _
      rw [if_pos (Or.inl rfl)]
    rw [e]
    have := qf_go (ps := ps) (n := N + 1) (E := fun c => pg_v (pg_T kd wd sr od sk ru me si cn mn ps br (N + 1) (bk - 1) c)) (K := qf_K kd wd sr od sk ru me si cn mn ps br bk) (by omega) g1 g2 (fun z hz => by
      unfold qf_K
      rw [show (4 * (N + 1 - 1) + z) / 4 + 1 = N + 1 by omega, show (4 * (N + 1 - 1) + z) % 4 = z by omega]
      have := qr_X_v (kd := kd) (wd := wd) (sr := sr) (od := od) (sk := sk) (ru := ru) (me := me) (si := si) (cn := cn) (mn := mn) (ps := ps) (br := br) (n := N + 1) (x := bk - 1) (c := z) (by omega)
      rw [show bk - 1 + 1 = bk by omega] at this
      exact this) 4 (by omega)
    obtain ⟨r2, k1, k2⟩ := this
    exact ⟨r2, k1, by rw [show 4 * (N + 1) = 4 * (N + 1 - 1) + 4 by omega]; exact k2⟩
/-- a number of lines is asked for -/
theorem qf_Ea {a : Nat} (h0 : s0.1 = 0) (ha : 1 ≤ a) (hb : a ≤ bk) : ∃ r : Option (Nat × qx_V), qb_is (qx_lt ps) (fun z => ((qr_X kd wd sr od sk ru me si cn mn ps br) a bk z).map Prod.snd) 4 r ∧ (match r with
  | none => (pg_E kd wd sr od sk ru me si cn mn ps br bk a s0 bk).1 = 0
  | some z => (pg_E kd wd sr od sk ru me si cn mn ps br bk a s0 bk).1 = a ∧ (pg_E kd wd sr od sk ru me si cn mn ps br bk a s0 bk).2.1 = z.1 ∧ ((pg_E kd wd sr od sk ru me si cn mn ps br bk a s0 bk).2.2.1, (pg_E kd wd sr od sk ru me si cn mn ps br bk a s0 bk).2.2.2.1, (pg_E kd wd sr od sk ru me si cn mn ps br bk a s0 bk).2.2.2.2) = z.2) := by
  have hv : ∀ z, pg_v (pg_T kd wd sr od sk ru me si cn mn ps br a (bk - 1) z) = ((qr_X kd wd sr od sk ru me si cn mn ps br) a bk z).map Prod.snd := fun z => by
    have := qr_X_v (kd := kd) (wd := wd) (sr := sr) (od := od) (sk := sk) (ru := ru) (me := me) (si := si) (cn := cn) (mn := mn) (ps := ps) (br := br) (n := a) (x := bk - 1) (c := z) ha
    rw [show bk - 1 + 1 = bk by omega] at this
    exact this
  rw [pg_E_at ha hb]
  obtain ⟨r, g1, g2⟩ := qf_go (ps := ps) (n := a) (E := fun c => pg_v (pg_T kd wd sr od sk ru me si cn mn ps br a (bk - 1) c)) (K := fun i => if i < 4 * (a - 1) then none else ((qr_X kd wd sr od sk ru me si cn mn ps br) a bk (i % 4)).map Prod.snd) (s0 := s0) (r0 := none) ha h0 (fun j hj => if_pos hj) (fun z hz => by
    rw [if_neg (by omega), show (4 * (a - 1) + z) % 4 = z by omega]
    exact hv z) 4 (by omega)
  cases r with
  | none =>
    refine ⟨none, fun z hz => ?_, g1⟩
    have : (if 4 * (a - 1) + z < 4 * (a - 1) then none else ((qr_X kd wd sr od sk ru me si cn mn ps br) a bk ((4 * (a - 1) + z) % 4)).map Prod.snd) = none := g2 (4 * (a - 1) + z) (by omega)
    rw [if_neg (by omega), show (4 * (a - 1) + z) % 4 = z by omega] at this
    exact this
  | some y =>
    obtain ⟨k1, k2, k3⟩ := g2
    have k2 : (if y.1 < 4 * (a - 1) then none else ((qr_X kd wd sr od sk ru me si cn mn ps br) a bk (y.1 % 4)).map Prod.snd) = some y.2 := k2
    by_cases hlt : y.1 < 4 * (a - 1)
    · rw [if_pos hlt] at k2; cases k2
    · rw [if_neg hlt] at k2
      refine ⟨some (y.1 % 4, y.2), ⟨by show y.1 % 4 < 4; omega, k2, fun j hj w hw => ?_⟩, ⟨?_, ?_, g1.2.2⟩⟩
      · have := k3 (4 * (a - 1) + j) (by omega) w (by
          show (if 4 * (a - 1) + j < 4 * (a - 1) then none else ((qr_X kd wd sr od sk ru me si cn mn ps br) a bk ((4 * (a - 1) + j) % 4)).map Prod.snd) = _
          rw [if_neg (by omega), show (4 * (a - 1) + j) % 4 = j by omega]
          exact hw)
        refine ⟨this.1, fun q => this.2 ?_⟩
        have q2 : j < y.1 % 4 := q
        omega
      · have := g1.1
        omega
      · exact g1.2.1
end QF

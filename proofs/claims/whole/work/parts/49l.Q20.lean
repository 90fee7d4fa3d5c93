/-! the end of a layer, as noteEnd looks at it -/
def kn_ec (ec : Nat → Int32) (n : Nat) (r : ke_R) : Nat → Int32 := match r with
  | none => ec
  | some z => upd ec n (nI z.1)
def kn_at (K : Nat → Option ke_K) (N : Nat) (ro : Nat → Int64) (rv : Nat → Int32) (rd : Nat → Int64) (rc : Nat → Int32) (ec0 ec : Nat → Int32) (n : Nat) : Prop := ∃ r : ke_R, kv_ ro rv rd rc 0 (r.map Prod.snd) ∧ qb_is ke_T K N r ∧ ec = kn_ec ec0 n r
section KN
variable {K : Nat → Option ke_K} {N n : Nat} {ro : Nat → Int64} {rv : Nat → Int32} {rd : Nat → Int64} {rc ec0 ec : Nat → Int32} {z : ke_K}
theorem kn_n (h : kn_at K N ro rv rd rc ec0 ec n) (hk : K N = none) : kn_at K (N + 1) ro rv rd rc ec0 ec n := by
  obtain ⟨r, h1, h2, h3⟩ := h
  exact ⟨r, h1, qb_n h2 hk, h3⟩
theorem kn_k (h : kn_at K N ro rv rd rc ec0 ec n) (hK : K N = some z) (hz : z.2 ≤ 1000) (hc : ¬ (rc 0 = (-1) ∨ pk_bt z.1.1 (ro 0) z.1.2.1 (rv 0) z.1.2.2 (rd 0) (nI z.2) (rc 0))) : kn_at K (N + 1) ro rv rd rc ec0 ec n := by
  obtain ⟨r, h1, h2, h3⟩ := h
  exact ⟨r, h1, ke_n h1 h2 hK hz hc, h3⟩
theorem kn_y (h : kn_at K N ro rv rd rc ec0 ec n) (hK : K N = some z) (hz : z.2 ≤ 1000) (hc : rc 0 = (-1) ∨ pk_bt z.1.1 (ro 0) z.1.2.1 (rv 0) z.1.2.2 (rd 0) (nI z.2) (rc 0)) : kn_at K (N + 1) (vp_updL ro 0 z.1.1) (upd rv 0 z.1.2.1) (vp_updL rd 0 z.1.2.2) (upd rc 0 (nI z.2)) ec0 (upd ec n (nI N)) n := by
  obtain ⟨r, h1, h2, h3⟩ := h
  refine ⟨some (N, z), ⟨hz, ?_, ?_, ?_, ?_⟩, ke_y h1 h2 hK hz hc, ?_⟩
  · simp only [upd, if_true]
  · simp only [vp_updL, if_true]
  · simp only [upd, if_true]
  · simp only [vp_updL, if_true]
  · rw [h3]
    funext j
    cases r with
    | none => rfl
    | some y =>
      simp only [kn_ec, upd]
      split <;> rfl
/-- the best over the layers, with this one -/
def kn_b (KB : Nat → Option ke_K) (N : Nat) (r rb : ke_R) : Prop := ∀ K : Nat → Option ke_K, (∀ i, i < N → K i = KB i) → K N = r.map Prod.snd → qb_is ke_T K (N + 1) rb
theorem kn_b0 {KB : Nat → Option ke_K} {rb : ke_R} (h : qb_is ke_T KB N rb) : kn_b KB N none rb := fun K h1 h2 => qb_n (qb_congr h (fun i hi => (h1 i hi).symm)) h2
theorem kn_bk {KB : Nat → Option ke_K} {rb r : ke_R} (hk : kv_ ro rv rd rc 0 (rb.map Prod.snd)) (h : qb_is ke_T KB N rb) (hr : r.map Prod.snd = some z) (hz : z.2 ≤ 1000) (hc : ¬ (rc 0 = (-1) ∨ pk_bt z.1.1 (ro 0) z.1.2.1 (rv 0) z.1.2.2 (rd 0) (nI z.2) (rc 0))) : kn_b KB N r rb := fun K h1 h2 => ke_n hk (qb_congr h (fun i hi => (h1 i hi).symm)) (h2.trans hr) hz hc
theorem kn_by {KB : Nat → Option ke_K} {rb r : ke_R} (hk : kv_ ro rv rd rc 0 (rb.map Prod.snd)) (h : qb_is ke_T KB N rb) (hr : r.map Prod.snd = some z) (hz : z.2 ≤ 1000) (hc : rc 0 = (-1) ∨ pk_bt z.1.1 (ro 0) z.1.2.1 (rv 0) z.1.2.2 (rd 0) (nI z.2) (rc 0)) : kn_b KB N r (some (N, z)) := fun K h1 h2 => ke_y hk (qb_congr h (fun i hi => (h1 i hi).symm)) (h2.trans hr) hz hc
theorem kv_put {ro : Nat → Int64} {rv : Nat → Int32} {rd : Nat → Int64} {rc : Nat → Int32} {z : ke_K} (hz : z.2 ≤ 1000) : kv_ (vp_updL ro 0 z.1.1) (upd rv 0 z.1.2.1) (vp_updL rd 0 z.1.2.2) (upd rc 0 (nI z.2)) 0 (some z) := by
  refine ⟨hz, ?_, ?_, ?_, ?_⟩
  · simp only [upd, if_true]
  · simp only [vp_updL, if_true]
  · simp only [upd, if_true]
  · simp only [vp_updL, if_true]
theorem ka_1 {an : Int32} (h : ka_ 1 an rc) : an = 0 ↔ rc 0 = (-1) := by
  rw [h.2]
  exact ⟨fun q => q 0 (by decide), fun q p hp => by rw [show p = 0 by omega]; exact q⟩
end KN

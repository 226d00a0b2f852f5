/-! the class's world: seven cells that stay, and a pool of objects -/
abbrev cX (x0 : Nat) (b : Nat → Nat) (z : Nat → ClassId) (lat cW cR cS cP cT : Int32) (oft : Nat → Int32) (g0 g1 g2 g3 g4 : Nat → Option Nat) : va_W :=
  [(x0, .inr (5, [.ref (b 0), .ref (b 1), .ref (b 2), .ref (b 3), .ref (b 4), .int cW, .int cR, .int cS, .int cP, .int cT, .ref (b 5), .int lat])),
   (b 0, .inl (z 0, 10, .inr (.inr (.inr (.inr g0))))), (b 1, .inl (z 1, 16, .inr (.inr (.inr (.inr g1))))), (b 2, .inl (z 2, 8, .inr (.inr (.inr (.inr g2))))), (b 3, .inl (z 3, 12, .inr (.inr (.inr (.inr g3))))), (b 4, .inl (z 4, 8, .inr (.inr (.inr (.inr g4))))), (b 5, .inl (z 5, 8, .inl oft))]
abbrev cT (z : Nat → ClassId) : List (ClassId × FieldType) := [(z 0, .object RX6), (z 1, .object RX3), (z 2, .object RX5), (z 3, .object RX1), (z 4, .object RX4), (z 5, .int), (z 6, .long)]
def cnt (σ : St) (t : Nat) : Nat := match t with
  | 0 => cN σ 0
  | 1 => cN σ 1
  | 2 => cN σ 2
  | 3 => cN σ 2
  | 4 => cN σ 3
  | 5 => cN σ 4
  | _ => cN σ 4
def pR (a : Nat → Nat) (x : Int32) : Option Nat := if x = -1 then none else some (a (ix x))
def sR (a : Nat) (x : Int32) : Value := if x = 0 then .ref a else .null
def Ct (z : Nat → ClassId) (σ : St) (ad : Nat → Nat → Nat) (t i : Nat) (e : va_E) : Prop := match t with
  | 0 => e = .inr (4, [.int (σ.1 3 i), .long (σ.2 0 i), .long (σ.2 1 i)])
  | 1 => e = .inr (1, [.int (σ.1 4 i), .long (σ.2 2 i)])
  | 2 => e = .inr (3, [.int (σ.1 5 i), sR (ad 3 i) (σ.1 7 i)])
  | 3 => ∃ g : Nat → Int64, e = .inl (z 6, ix (σ.1 6 i), .inr (.inl g)) ∧ ∀ j, j < 16 → g j = σ.2 3 (16 * i + j)
  | 4 => e = .inr (0, [.int (σ.1 8 i), .ref (ad 0 (ix (σ.1 9 i)))])
  | 5 => e = .inr (2, [.int (σ.1 10 i), .ref (ad 6 i)])
  | _ => ∃ g : Nat → Option Nat, e = .inl (z 3, ix (σ.1 11 i), .inr (.inr (.inr (.inr g)))) ∧ ∀ j, j < 6 → g j = pR (ad 4) (σ.1 12 (6 * i + j))
def GA (σ : St) (ad : Nat → Nat → Nat) (g : Nat → Nat → Option Nat) : Prop := (∀ i, i < cN σ 0 → g 0 i = some (ad 0 i)) ∧ (∀ i, i < cN σ 1 → g 1 i = some (ad 1 i)) ∧ (∀ i, i < cN σ 2 → g 2 i = some (ad 2 i)) ∧ (∀ i, i < cN σ 3 → g 3 i = some (ad 4 i)) ∧ ∀ i, i < cN σ 4 → g 4 i = some (ad 5 i)
def CO (z : Nat → ClassId) (σ : St) (L : List Nat) (f : Nat → va_E) (ad : Nat → Nat → Nat) : Prop := (∀ t i, t < 7 → i < cnt σ t → ad t i ∈ L ∧ Ct z σ ad t i (f (ad t i))) ∧ ∀ t i t' i', t < 7 → t' < 7 → i < cnt σ t → i' < cnt σ t' → ad t i = ad t' i' → t = t' ∧ i = i'
def CI (z : Nat → ClassId) (σ : St) (L : List Nat) (f : Nat → va_E) (ad : Nat → Nat → Nat) (g : Nat → Nat → Option Nat) : Prop := CO z σ L f ad ∧ GA σ ad g
abbrev cG (x0 : Nat) (b : Nat → Nat) (z : Nat → ClassId) (σ : St) (g : Nat → Nat → Option Nat) (L : List Nat) (f : Nat → va_E) : va_W := cX x0 b z (σ.1 0 0) (σ.1 2 0) (σ.1 2 1) (σ.1 2 2) (σ.1 2 3) (σ.1 2 4) (σ.1 1) (g 0) (g 1) (g 2) (g 3) (g 4) ++ va_pl L f
def CX (x0 : Nat) (b : Nat → Nat) (z : Nat → ClassId) (σ : St) (u : va_W) : Prop := ∃ (L : List Nat) (f : Nat → va_E) (ad : Nat → Nat → Nat) (g : Nat → Nat → Option Nat), u = cG x0 b z σ g L f ∧ CI z σ L f ad g
theorem lt7 {t : Nat} (h : t < 7) : t = 0 ∨ t = 1 ∨ t = 2 ∨ t = 3 ∨ t = 4 ∨ t = 5 ∨ t = 6 := by omega
theorem upd_ne {f : Nat → Int32} {k j : Nat} {v : Int32} (h : ¬ j = k) : upd f k v j = f j := by unfold upd; rw [if_neg h]
theorem upd_eq {f : Nat → Int32} {k : Nat} {v : Int32} : upd f k v k = v := by unfold upd; rw [if_pos rfl]
theorem updL_ne {f : Nat → Int64} {k j : Nat} {v : Int64} (h : ¬ j = k) : vp_updL f k v j = f j := by unfold vp_updL; rw [if_neg h]
theorem updL_eq {f : Nat → Int64} {k : Nat} {v : Int64} : vp_updL f k v k = v := by unfold vp_updL; rw [if_pos rfl]
/-- one object changes -/
theorem CO_upd {z : Nat → ClassId} {σ σ' : St} {L : List Nat} {f : Nat → va_E} {ad : Nat → Nat → Nat} {t0 i0 : Nat} {e : va_E} (h : CO z σ L f ad) (ht : t0 < 7) (hi : i0 < cnt σ t0) (hc : ∀ t, cnt σ' t = cnt σ t) (hk : ∀ t i x, t < 7 → i < cnt σ t → ¬ (t = t0 ∧ i = i0) → Ct z σ ad t i x → Ct z σ' ad t i x) (he : Ct z σ' ad t0 i0 e) : CO z σ' L (va_up f (ad t0 i0) e) ad := by
  refine ⟨fun t i h1 h2 => ?_, fun t i t' i' h1 h2 h3 h4 h5 => h.2 t i t' i' h1 h2 (hc t ▸ h3) (hc t' ▸ h4) h5⟩
  rw [hc] at h2
  refine ⟨(h.1 t i h1 h2).1, ?_⟩
  by_cases g : ad t i = ad t0 i0
  · obtain ⟨rfl, rfl⟩ := h.2 t i t0 i0 h1 ht h2 hi g
    rw [va_up_self]; exact he
  · rw [va_up_ne _ _ g]
    exact hk t i _ h1 h2 (fun q => g (by rw [q.1, q.2])) (h.1 t i h1 h2).2
/-- no object changes -/
theorem CO_same {z : Nat → ClassId} {σ σ' : St} {L : List Nat} {f : Nat → va_E} {ad : Nat → Nat → Nat} (h : CO z σ L f ad) (hc : ∀ t, cnt σ' t = cnt σ t) (hk : ∀ t i x, t < 7 → i < cnt σ t → Ct z σ ad t i x → Ct z σ' ad t i x) : CO z σ' L f ad :=
  ⟨fun t i h1 h2 => by rw [hc] at h2; exact ⟨(h.1 t i h1 h2).1, hk t i _ h1 h2 (h.1 t i h1 h2).2⟩, fun t i t' i' h1 h2 h3 h4 h5 => h.2 t i t' i' h1 h2 (hc t ▸ h3) (hc t' ▸ h4) h5⟩
/-- objects are added -/
theorem CO_add {z : Nat → ClassId} {σ σ' : St} {L L' : List Nat} {f f' : Nat → va_E} {ad ad' : Nat → Nat → Nat} (h : CO z σ L f ad) (hL : ∀ a ∈ L, a ∈ L') (hf : ∀ a ∈ L, f' a = f a) (ho : ∀ t i, t < 7 → i < cnt σ t → ad' t i = ad t i)
    (hk : ∀ t i x, t < 7 → i < cnt σ t → Ct z σ ad t i x → Ct z σ' ad' t i x)
    (hn : ∀ t i, t < 7 → i < cnt σ' t → ¬ i < cnt σ t → ad' t i ∈ L' ∧ ad' t i ∉ L ∧ Ct z σ' ad' t i (f' (ad' t i)))
    (hj : ∀ t i t' i', t < 7 → t' < 7 → i < cnt σ' t → ¬ i < cnt σ t → i' < cnt σ' t' → ¬ i' < cnt σ t' → ad' t i = ad' t' i' → t = t' ∧ i = i') : CO z σ' L' f' ad' := by
  refine ⟨fun t i h1 h2 => ?_, fun t i t' i' h1 h2 h3 h4 h5 => ?_⟩
  · by_cases q : i < cnt σ t
    · have g := h.1 t i h1 q
      rw [ho t i h1 q]
      exact ⟨hL _ g.1, by rw [hf _ g.1]; exact hk t i _ h1 q g.2⟩
    · have g := hn t i h1 h2 q
      exact ⟨g.1, g.2.2⟩
  · by_cases q : i < cnt σ t <;> by_cases q' : i' < cnt σ t'
    · rw [ho t i h1 q, ho t' i' h2 q'] at h5
      exact h.2 t i t' i' h1 h2 q q' h5
    · have g := hn t' i' h2 h4 q'
      rw [← h5, ho t i h1 q] at g
      exact absurd (h.1 t i h1 q).1 g.2.1
    · have g := hn t i h1 h3 q
      rw [h5, ho t' i' h2 q'] at g
      exact absurd (h.1 t' i' h2 q').1 g.2.1
    · exact hj t i t' i' h1 h2 h3 q h4 q' h5
def adp (ad : Nat → Nat → Nat) (t c q : Nat) : Nat → Nat → Nat := fun u => if u = t then va_up (ad t) c q else ad u
theorem up_ne {f : Nat → Nat} {k j v : Nat} (h : ¬ j = k) : va_up f k v j = f j := va_up_ne f v h
/-! each kind of change -/
theorem Ct_c0 {z : Nat → ClassId} {σ σ' : St} {ad ad' : Nat → Nat → Nat} {i : Nat} {x : va_E} (hc : Ct z σ ad 0 i x) (h1 : σ'.1 3 i = σ.1 3 i) (h2 : σ'.2 0 i = σ.2 0 i) (h3 : σ'.2 1 i = σ.2 1 i) : Ct z σ' ad' 0 i x := by
  show x = .inr (4, [.int (σ'.1 3 i), .long (σ'.2 0 i), .long (σ'.2 1 i)])
  rw [h1, h2, h3]; exact hc
theorem Ct_c1 {z : Nat → ClassId} {σ σ' : St} {ad ad' : Nat → Nat → Nat} {i : Nat} {x : va_E} (hc : Ct z σ ad 1 i x) (h1 : σ'.1 4 i = σ.1 4 i) (h2 : σ'.2 2 i = σ.2 2 i) : Ct z σ' ad' 1 i x := by
  show x = .inr (1, [.int (σ'.1 4 i), .long (σ'.2 2 i)])
  rw [h1, h2]; exact hc
theorem Ct_c2 {z : Nat → ClassId} {σ σ' : St} {ad ad' : Nat → Nat → Nat} {i : Nat} {x : va_E} (hc : Ct z σ ad 2 i x) (h1 : σ'.1 5 i = σ.1 5 i) (h2 : σ'.1 7 i = σ.1 7 i) (h3 : ad' 3 i = ad 3 i) : Ct z σ' ad' 2 i x := by
  show x = .inr (3, [.int (σ'.1 5 i), sR (ad' 3 i) (σ'.1 7 i)])
  rw [h1, h2, h3]; exact hc
theorem Ct_c3 {z : Nat → ClassId} {σ σ' : St} {ad ad' : Nat → Nat → Nat} {i : Nat} {x : va_E} (hc : Ct z σ ad 3 i x) (h1 : σ'.1 6 i = σ.1 6 i) (h2 : ∀ j, j < 16 → σ'.2 3 (16 * i + j) = σ.2 3 (16 * i + j)) : Ct z σ' ad' 3 i x := by
  obtain ⟨g, e1, e2⟩ := hc
  refine ⟨g, ?_, fun j hj => (e2 j hj).trans (h2 j hj).symm⟩
  show x = .inl (z 6, ix (σ'.1 6 i), .inr (.inl g))
  rw [h1]; exact e1
theorem Ct_c4 {z : Nat → ClassId} {σ σ' : St} {ad ad' : Nat → Nat → Nat} {i : Nat} {x : va_E} (hc : Ct z σ ad 4 i x) (h1 : σ'.1 8 i = σ.1 8 i) (h2 : ad' 0 (ix (σ'.1 9 i)) = ad 0 (ix (σ.1 9 i))) : Ct z σ' ad' 4 i x := by
  show x = .inr (0, [.int (σ'.1 8 i), .ref (ad' 0 (ix (σ'.1 9 i)))])
  rw [h1, h2]; exact hc
theorem Ct_c5 {z : Nat → ClassId} {σ σ' : St} {ad ad' : Nat → Nat → Nat} {i : Nat} {x : va_E} (hc : Ct z σ ad 5 i x) (h1 : σ'.1 10 i = σ.1 10 i) (h2 : ad' 6 i = ad 6 i) : Ct z σ' ad' 5 i x := by
  show x = .inr (2, [.int (σ'.1 10 i), .ref (ad' 6 i)])
  rw [h1, h2]; exact hc
theorem Ct_c6 {z : Nat → ClassId} {σ σ' : St} {ad ad' : Nat → Nat → Nat} {i : Nat} {x : va_E} (hc : Ct z σ ad 6 i x) (h1 : σ'.1 11 i = σ.1 11 i) (h2 : ∀ j, j < 6 → pR (ad' 4) (σ'.1 12 (6 * i + j)) = pR (ad 4) (σ.1 12 (6 * i + j))) : Ct z σ' ad' 6 i x := by
  obtain ⟨g, e1, e2⟩ := hc
  refine ⟨g, ?_, fun j hj => (e2 j hj).trans (h2 j hj).symm⟩
  show x = .inl (z 3, ix (σ'.1 11 i), .inr (.inr (.inr (.inr g))))
  rw [h1]; exact e1
theorem CI_rf {z : Nat → ClassId} {σ : St} {L : List Nat} {f : Nat → va_E} {ad : Nat → Nat → Nat} {g : Nat → Nat → Option Nat} (h : CI z σ L f ad g) (w : Int32) : CI z (rf σ w) L f ad g :=
  ⟨CO_same h.1 (fun _ => rfl) (fun t i x ht _ hc => by rcases lt7 ht with rfl | rfl | rfl | rfl | rfl | rfl | rfl <;> first | exact Ct_c0 hc rfl rfl rfl | exact Ct_c1 hc rfl rfl | exact Ct_c2 hc rfl rfl rfl | exact Ct_c3 hc rfl (fun _ _ => rfl) | exact Ct_c4 hc rfl rfl | exact Ct_c5 hc rfl rfl | exact Ct_c6 hc rfl (fun _ _ => rfl)), h.2⟩
theorem CI_ok0 {z : Nat → ClassId} {σ : St} {L : List Nat} {f : Nat → va_E} {ad : Nat → Nat → Nat} {g : Nat → Nat → Option Nat} (h : CI z σ L f ad g) : CI z (ok0 σ) L f ad g :=
  ⟨CO_same h.1 (fun _ => rfl) (fun t i x ht _ hc => by rcases lt7 ht with rfl | rfl | rfl | rfl | rfl | rfl | rfl <;> first | exact Ct_c0 hc rfl rfl rfl | exact Ct_c1 hc rfl rfl | exact Ct_c2 hc rfl rfl rfl | exact Ct_c3 hc rfl (fun _ _ => rfl) | exact Ct_c4 hc rfl rfl | exact Ct_c5 hc rfl rfl | exact Ct_c6 hc rfl (fun _ _ => rfl)), h.2⟩
theorem CI_turn {z : Nat → ClassId} {σ : St} {L : List Nat} {f : Nat → va_E} {ad : Nat → Nat → Nat} {g : Nat → Nat → Option Nat} {n : Nat} {v : Int64} (h : CI z σ L f ad g) (hi : n < cN σ 0) :
    CI z (sJ (ok0 σ) 1 n v) L (va_up f (ad 0 n) (.inr (4, [.int (σ.1 3 n), .long (σ.2 0 n), .long v]))) ad g := by
  refine ⟨CO_upd (t0 := 0) h.1 (by decide) hi (fun _ => rfl) (fun t i x ht _ hne hc => ?_) ?_, h.2⟩
  · rcases lt7 ht with rfl | rfl | rfl | rfl | rfl | rfl | rfl
    · show x = .inr (4, [.int (σ.1 3 i), .long (σ.2 0 i), .long (vp_updL (σ.2 1) n v i)])
      rw [updL_ne (fun q => hne ⟨rfl, q⟩)]; exact hc
    all_goals (first | exact Ct_c0 hc rfl rfl rfl | exact Ct_c1 hc rfl rfl | exact Ct_c2 hc rfl rfl rfl | exact Ct_c3 hc rfl (fun _ _ => rfl) | exact Ct_c4 hc rfl rfl | exact Ct_c5 hc rfl rfl | exact Ct_c6 hc rfl (fun _ _ => rfl))
  · show _ = (Sum.inr (4, [.int (σ.1 3 n), .long (σ.2 0 n), .long (vp_updL (σ.2 1) n v n)]) : va_E)
    rw [updL_eq]
theorem CI_store {z : Nat → ClassId} {σ : St} {L : List Nat} {f : Nat → va_E} {ad : Nat → Nat → Nat} {g : Nat → Nat → Option Nat} {n : Nat} {v : Int64} (h : CI z σ L f ad g) (hi : n < cN σ 1) :
    CI z (sJ (ok0 σ) 2 n v) L (va_up f (ad 1 n) (.inr (1, [.int (σ.1 4 n), .long v]))) ad g := by
  refine ⟨CO_upd (t0 := 1) h.1 (by decide) hi (fun _ => rfl) (fun t i x ht _ hne hc => ?_) ?_, h.2⟩
  · rcases lt7 ht with rfl | rfl | rfl | rfl | rfl | rfl | rfl
    · exact Ct_c0 hc rfl rfl rfl
    · show x = .inr (1, [.int (σ.1 4 i), .long (vp_updL (σ.2 2) n v i)])
      rw [updL_ne (fun q => hne ⟨rfl, q⟩)]; exact hc
    all_goals (first | exact Ct_c0 hc rfl rfl rfl | exact Ct_c1 hc rfl rfl | exact Ct_c2 hc rfl rfl rfl | exact Ct_c3 hc rfl (fun _ _ => rfl) | exact Ct_c4 hc rfl rfl | exact Ct_c5 hc rfl rfl | exact Ct_c6 hc rfl (fun _ _ => rfl))
  · show _ = (Sum.inr (1, [.int (σ.1 4 n), .long (vp_updL (σ.2 2) n v n)]) : va_E)
    rw [updL_eq]
theorem CI_tear {z : Nat → ClassId} {σ : St} {L : List Nat} {f : Nat → va_E} {ad : Nat → Nat → Nat} {g : Nat → Nat → Option Nat} {n : Nat} (h : CI z σ L f ad g) (hi : n < cN σ 2) :
    CI z (sI (ok0 σ) 7 n 1) L (va_up f (ad 2 n) (.inr (3, [.int (σ.1 5 n), .null]))) ad g := by
  refine ⟨CO_upd (t0 := 2) h.1 (by decide) hi (fun _ => rfl) (fun t i x ht _ hne hc => ?_) ?_, h.2⟩
  · rcases lt7 ht with rfl | rfl | rfl | rfl | rfl | rfl | rfl
    · exact Ct_c0 hc rfl rfl rfl
    · exact Ct_c1 hc rfl rfl
    · show x = .inr (3, [.int (σ.1 5 i), sR (ad 3 i) (upd (σ.1 7) n 1 i)])
      rw [upd_ne (fun q => hne ⟨rfl, q⟩)]; exact hc
    all_goals (first | exact Ct_c0 hc rfl rfl rfl | exact Ct_c1 hc rfl rfl | exact Ct_c2 hc rfl rfl rfl | exact Ct_c3 hc rfl (fun _ _ => rfl) | exact Ct_c4 hc rfl rfl | exact Ct_c5 hc rfl rfl | exact Ct_c6 hc rfl (fun _ _ => rfl))
  · show _ = (Sum.inr (3, [.int (σ.1 5 n), sR (ad 3 n) (upd (σ.1 7) n 1 n)]) : va_E)
    rw [upd_eq]; unfold sR; rw [if_neg (by decide)]
theorem CI_keep {z : Nat → ClassId} {σ : St} {L : List Nat} {f : Nat → va_E} {ad : Nat → Nat → Nat} {g : Nat → Nat → Option Nat} {n i0 : Nat} {v : Int64} {q : Nat → Int64} (h : CI z σ L f ad g) (hi : n < cN σ 2) (hj : i0 < 16) (hq : ∀ j, j < 16 → q j = σ.2 3 (16 * n + j)) :
    CI z (sJ (ok0 σ) 3 (16 * n + i0) v) L (va_up f (ad 3 n) (.inl (z 6, ix (σ.1 6 n), .inr (.inl (vp_updL q i0 v))))) ad g := by
  refine ⟨CO_upd (t0 := 3) h.1 (by decide) hi (fun _ => rfl) (fun t i x ht _ hne hc => ?_) ?_, h.2⟩
  · rcases lt7 ht with rfl | rfl | rfl | rfl | rfl | rfl | rfl
    · exact Ct_c0 hc rfl rfl rfl
    · exact Ct_c1 hc rfl rfl
    · exact Ct_c2 hc rfl rfl rfl
    · obtain ⟨r, h1, h2⟩ := hc
      refine ⟨r, h1, fun j hj2 => ?_⟩
      show r j = vp_updL (σ.2 3) (16 * n + i0) v (16 * i + j)
      rw [updL_ne (fun e => hne ⟨rfl, by omega⟩)]; exact h2 j hj2
    all_goals (first | exact Ct_c0 hc rfl rfl rfl | exact Ct_c1 hc rfl rfl | exact Ct_c2 hc rfl rfl rfl | exact Ct_c3 hc rfl (fun _ _ => rfl) | exact Ct_c4 hc rfl rfl | exact Ct_c5 hc rfl rfl | exact Ct_c6 hc rfl (fun _ _ => rfl))
  · refine ⟨_, rfl, fun j hj2 => ?_⟩
    show vp_updL q i0 v j = vp_updL (σ.2 3) (16 * n + i0) v (16 * n + j)
    by_cases e : j = i0
    · rw [e, updL_eq, updL_eq]
    · rw [updL_ne e, updL_ne (by omega)]; exact hq j hj2
theorem CI_lay {z : Nat → ClassId} {σ : St} {L : List Nat} {f : Nat → va_E} {ad : Nat → Nat → Nat} {g : Nat → Nat → Option Nat} {n i0 : Nat} {w : Int32} {q : Nat → Option Nat} {v : Option Nat} (h : CI z σ L f ad g) (hi : n < cN σ 4) (hj : i0 < 6) (hv : v = pR (ad 4) w)
    (hq : ∀ j, j < 6 → q j = pR (ad 4) (σ.1 12 (6 * n + j))) :
    CI z (sI (ok0 σ) 12 (6 * n + i0) w) L (va_up f (ad 6 n) (.inl (z 3, ix (σ.1 11 n), .inr (.inr (.inr (.inr (va_up q i0 v))))))) ad g := by
  refine ⟨CO_upd (t0 := 6) h.1 (by decide) hi (fun _ => rfl) (fun t i x ht _ hne hc => ?_) ?_, h.2⟩
  · rcases lt7 ht with rfl | rfl | rfl | rfl | rfl | rfl | rfl
    · exact Ct_c0 hc rfl rfl rfl
    · exact Ct_c1 hc rfl rfl
    · exact Ct_c2 hc rfl rfl rfl
    · exact Ct_c3 hc rfl (fun _ _ => rfl)
    · exact Ct_c4 hc rfl rfl
    · exact Ct_c5 hc rfl rfl
    · obtain ⟨r, h1, h2⟩ := hc
      refine ⟨r, h1, fun j hj2 => ?_⟩
      show r j = pR (ad 4) (upd (σ.1 12) (6 * n + i0) w (6 * i + j))
      rw [upd_ne (fun e => hne ⟨rfl, by omega⟩)]; exact h2 j hj2
  · refine ⟨_, rfl, fun j hj2 => ?_⟩
    show va_up q i0 v j = pR (ad 4) (upd (σ.1 12) (6 * n + i0) w (6 * n + j))
    by_cases e : j = i0
    · rw [e, va_up_self, upd_eq]; exact hv
    · rw [va_up_ne _ _ e, upd_ne (by omega)]; exact hq j hj2
theorem ga_up {n : Nat} {c : Int32} {N : Nat} {g : Nat → Option Nat} {ad : Nat → Nat} {q : Nat} (hb : bnd c N) (hN : N < 100) (h : ∀ i, i < c.toNatClampNeg → g i = some (ad i)) : ∀ i, i < (c + 1).toNatClampNeg → va_up g c.toNatClampNeg (some q) i = some (va_up ad c.toNatClampNeg q i) := fun i hi => by
  by_cases e : i = c.toNatClampNeg
  · rw [e, va_up_self, va_up_self]
  · rw [va_up_ne _ _ e, va_up_ne _ _ e]; exact h i (lt_inc hb hN hi e)

theorem CI_wheel {z : Nat → ClassId} {σ : St} {L : List Nat} {f : Nat → va_E} {ad : Nat → Nat → Nat} {g : Nat → Nat → Option Nat} {k : Int32} {v : Int64} {q : Nat} (hV : vOK σ) (h : CI z σ L f ad g) (hq : q ∉ L) : CI z (sI (sJ (sJ (sI (ok0 σ) 3 (cN σ 0) k) 0 (cN σ 0) v) 1 (cN σ 0) 0) 2 0 (σ.1 2 0 + 1)) (L ++ [q]) (va_up f q (.inr (4, [.int k, .long v, .long 0]))) (adp ad 0 (cN σ 0) q) (fun t => if t = 0 then va_up (g 0) (cN σ 0) (some q) else g t) := by
  generalize hσ : sI (sJ (sJ (sI (ok0 σ) 3 (cN σ 0) k) 0 (cN σ 0) v) 1 (cN σ 0) 0) 2 0 (σ.1 2 0 + 1) = τ
  have c0 : τ.1 2 0 = σ.1 2 0 + 1 := by rw [← hσ]; simp [sI, sJ, sA, sB, ok0, upd]
  have c1 : τ.1 2 1 = σ.1 2 1 := by rw [← hσ]; simp [sI, sJ, sA, sB, ok0, upd]
  have c2 : τ.1 2 2 = σ.1 2 2 := by rw [← hσ]; simp [sI, sJ, sA, sB, ok0, upd]
  have c3 : τ.1 2 3 = σ.1 2 3 := by rw [← hσ]; simp [sI, sJ, sA, sB, ok0, upd]
  have c4 : τ.1 2 4 = σ.1 2 4 := by rw [← hσ]; simp [sI, sJ, sA, sB, ok0, upd]
  have i3 : τ.1 3 = upd (σ.1 3) (cN σ 0) k := by rw [← hσ]; simp [sI, sJ, sA, sB, ok0]
  have i4 : τ.1 4 = σ.1 4 := by rw [← hσ]; simp [sI, sJ, sA, sB, ok0]
  have i5 : τ.1 5 = σ.1 5 := by rw [← hσ]; simp [sI, sJ, sA, sB, ok0]
  have i6 : τ.1 6 = σ.1 6 := by rw [← hσ]; simp [sI, sJ, sA, sB, ok0]
  have i7 : τ.1 7 = σ.1 7 := by rw [← hσ]; simp [sI, sJ, sA, sB, ok0]
  have i8 : τ.1 8 = σ.1 8 := by rw [← hσ]; simp [sI, sJ, sA, sB, ok0]
  have i9 : τ.1 9 = σ.1 9 := by rw [← hσ]; simp [sI, sJ, sA, sB, ok0]
  have i10 : τ.1 10 = σ.1 10 := by rw [← hσ]; simp [sI, sJ, sA, sB, ok0]
  have i11 : τ.1 11 = σ.1 11 := by rw [← hσ]; simp [sI, sJ, sA, sB, ok0]
  have i12 : τ.1 12 = σ.1 12 := by rw [← hσ]; simp [sI, sJ, sA, sB, ok0]
  have j0 : τ.2 0 = vp_updL (σ.2 0) (cN σ 0) v := by rw [← hσ]; simp [sI, sJ, sA, sB, ok0]
  have j1 : τ.2 1 = vp_updL (σ.2 1) (cN σ 0) 0 := by rw [← hσ]; simp [sI, sJ, sA, sB, ok0]
  have j2 : τ.2 2 = σ.2 2 := by rw [← hσ]; simp [sI, sJ, sA, sB, ok0]
  have j3 : τ.2 3 = σ.2 3 := by rw [← hσ]; simp [sI, sJ, sA, sB, ok0]
  clear hσ
  have hcn : cN τ 0 = cN σ 0 + 1 := by show (τ.1 2 0).toNatClampNeg = _; rw [c0]; exact inc1N (n := 10) hV.1.1 (by decide)
  have k1 : cN τ 1 = cN σ 1 := by show (τ.1 2 1).toNatClampNeg = _; rw [c1]
  have k2 : cN τ 2 = cN σ 2 := by show (τ.1 2 2).toNatClampNeg = _; rw [c2]
  have k3 : cN τ 3 = cN σ 3 := by show (τ.1 2 3).toNatClampNeg = _; rw [c3]
  have k4 : cN τ 4 = cN σ 4 := by show (τ.1 2 4).toNatClampNeg = _; rw [c4]
  have nw : ∀ t i, t < 7 → i < cnt τ t → ¬ i < cnt σ t → (t = 0) ∧ i = cN σ 0 := fun t i ht h1 h2 => by
    rcases lt7 ht with rfl | rfl | rfl | rfl | rfl | rfl | rfl
    · have h1 : i < cN τ 0 := h1
      have h2 : ¬ i < cN σ 0 := h2
      exact ⟨rfl, by omega⟩
    · have h1 : i < cN τ 1 := h1
      have h2 : ¬ i < cN σ 1 := h2
      omega
    · have h1 : i < cN τ 2 := h1
      have h2 : ¬ i < cN σ 2 := h2
      omega
    · have h1 : i < cN τ 2 := h1
      have h2 : ¬ i < cN σ 2 := h2
      omega
    · have h1 : i < cN τ 3 := h1
      have h2 : ¬ i < cN σ 3 := h2
      omega
    · have h1 : i < cN τ 4 := h1
      have h2 : ¬ i < cN σ 4 := h2
      omega
    · have h1 : i < cN τ 4 := h1
      have h2 : ¬ i < cN σ 4 := h2
      omega
  refine ⟨CO_add h.1 (fun a ha => List.mem_append_left _ ha) (fun a ha => va_up_ne f _ (fun e => hq (e ▸ ha))) (fun t i ht hi => ?_) (fun t i x ht hi hc => ?_) (fun t i ht h1 h2 => ?_) (fun t i t2 i2 ht ht2 h1 h2 h3 h4 h5 => ?_), ?_⟩
  · rcases lt7 ht with rfl | rfl | rfl | rfl | rfl | rfl | rfl
    · exact up_ne (Nat.ne_of_lt hi)
    · rfl
    · rfl
    · rfl
    · rfl
    · rfl
    · rfl
  · rcases lt7 ht with rfl | rfl | rfl | rfl | rfl | rfl | rfl
    · have hi : i < cN σ 0 := hi
      exact Ct_c0 hc ((congrFun i3 i).trans (upd_ne (Nat.ne_of_lt hi))) ((congrFun j0 i).trans (updL_ne (Nat.ne_of_lt hi))) ((congrFun j1 i).trans (updL_ne (Nat.ne_of_lt hi)))
    · have hi : i < cN σ 1 := hi
      exact Ct_c1 hc (congrFun i4 i) (congrFun j2 i)
    · have hi : i < cN σ 2 := hi
      exact Ct_c2 hc (congrFun i5 i) (congrFun i7 i) rfl
    · have hi : i < cN σ 2 := hi
      exact Ct_c3 hc (congrFun i6 i) (fun j hj => congrFun j3 _)
    · have hi : i < cN σ 3 := hi
      refine Ct_c4 hc (congrFun i8 i) ?_
      show va_up (ad 0) (cN σ 0) q (ix (τ.1 9 i)) = _
      rw [i9, up_ne (Nat.ne_of_lt ?_)]
      have p := (hV.2.2.2.2.1 i hi).2
      show (σ.1 9 i).toInt.toNat < (σ.1 2 0).toInt.toNat
      omega
    · have hi : i < cN σ 4 := hi
      exact Ct_c5 hc (congrFun i10 i) rfl
    · have hi : i < cN σ 4 := hi
      exact Ct_c6 hc (congrFun i11 i) (fun j hj => congrArg (pR (ad 4)) (congrFun i12 _))
  · obtain ⟨rfl, rfl⟩ := nw t i ht h1 h2
    have e : (adp ad 0 (cN σ 0) q) 0 (cN σ 0) = q := va_up_self (ad 0) (cN σ 0) q
    rw [e]
    refine ⟨List.mem_append_right _ (List.mem_singleton.mpr rfl), hq, ?_⟩
    rw [va_up_self]
    show _ = (Sum.inr (4, [.int (τ.1 3 (cN σ 0)), .long (τ.2 0 (cN σ 0)), .long (τ.2 1 (cN σ 0))]) : va_E)
    rw [i3, j0, j1, upd_eq, updL_eq, updL_eq]
  · obtain ⟨a1, rfl⟩ := nw t i ht h1 h2
    obtain ⟨a2, rfl⟩ := nw t2 i2 ht2 h3 h4
    exact ⟨a1.trans a2.symm, rfl⟩
  · exact ⟨fun i hi => ga_up (n := 0) (N := 10) hV.1.1 (by decide) h.2.1 i (by have hi : i < (τ.1 2 0).toNatClampNeg := hi; rwa [c0] at hi), fun i hi => h.2.2.1 i (by have hi : i < cN τ 1 := hi; rwa [k1] at hi), fun i hi => h.2.2.2.1 i (by have hi : i < cN τ 2 := hi; rwa [k2] at hi), fun i hi => h.2.2.2.2.1 i (by have hi : i < cN τ 3 := hi; rwa [k3] at hi), fun i hi => h.2.2.2.2.2 i (by have hi : i < cN τ 4 := hi; rwa [k4] at hi)⟩

theorem CI_reg {z : Nat → ClassId} {σ : St} {L : List Nat} {f : Nat → va_E} {ad : Nat → Nat → Nat} {g : Nat → Nat → Option Nat} {k : Int32} {q : Nat} (hV : vOK σ) (h : CI z σ L f ad g) (hq : q ∉ L) : CI z (sI (sJ (sI (ok0 σ) 4 (cN σ 1) k) 2 (cN σ 1) 0) 2 1 (σ.1 2 1 + 1)) (L ++ [q]) (va_up f q (.inr (1, [.int k, .long 0]))) (adp ad 1 (cN σ 1) q) (fun t => if t = 1 then va_up (g 1) (cN σ 1) (some q) else g t) := by
  generalize hσ : sI (sJ (sI (ok0 σ) 4 (cN σ 1) k) 2 (cN σ 1) 0) 2 1 (σ.1 2 1 + 1) = τ
  have c0 : τ.1 2 0 = σ.1 2 0 := by rw [← hσ]; simp [sI, sJ, sA, sB, ok0, upd]
  have c1 : τ.1 2 1 = σ.1 2 1 + 1 := by rw [← hσ]; simp [sI, sJ, sA, sB, ok0, upd]
  have c2 : τ.1 2 2 = σ.1 2 2 := by rw [← hσ]; simp [sI, sJ, sA, sB, ok0, upd]
  have c3 : τ.1 2 3 = σ.1 2 3 := by rw [← hσ]; simp [sI, sJ, sA, sB, ok0, upd]
  have c4 : τ.1 2 4 = σ.1 2 4 := by rw [← hσ]; simp [sI, sJ, sA, sB, ok0, upd]
  have i3 : τ.1 3 = σ.1 3 := by rw [← hσ]; simp [sI, sJ, sA, sB, ok0]
  have i4 : τ.1 4 = upd (σ.1 4) (cN σ 1) k := by rw [← hσ]; simp [sI, sJ, sA, sB, ok0]
  have i5 : τ.1 5 = σ.1 5 := by rw [← hσ]; simp [sI, sJ, sA, sB, ok0]
  have i6 : τ.1 6 = σ.1 6 := by rw [← hσ]; simp [sI, sJ, sA, sB, ok0]
  have i7 : τ.1 7 = σ.1 7 := by rw [← hσ]; simp [sI, sJ, sA, sB, ok0]
  have i8 : τ.1 8 = σ.1 8 := by rw [← hσ]; simp [sI, sJ, sA, sB, ok0]
  have i9 : τ.1 9 = σ.1 9 := by rw [← hσ]; simp [sI, sJ, sA, sB, ok0]
  have i10 : τ.1 10 = σ.1 10 := by rw [← hσ]; simp [sI, sJ, sA, sB, ok0]
  have i11 : τ.1 11 = σ.1 11 := by rw [← hσ]; simp [sI, sJ, sA, sB, ok0]
  have i12 : τ.1 12 = σ.1 12 := by rw [← hσ]; simp [sI, sJ, sA, sB, ok0]
  have j0 : τ.2 0 = σ.2 0 := by rw [← hσ]; simp [sI, sJ, sA, sB, ok0]
  have j1 : τ.2 1 = σ.2 1 := by rw [← hσ]; simp [sI, sJ, sA, sB, ok0]
  have j2 : τ.2 2 = vp_updL (σ.2 2) (cN σ 1) 0 := by rw [← hσ]; simp [sI, sJ, sA, sB, ok0]
  have j3 : τ.2 3 = σ.2 3 := by rw [← hσ]; simp [sI, sJ, sA, sB, ok0]
  clear hσ
  have hcn : cN τ 1 = cN σ 1 + 1 := by show (τ.1 2 1).toNatClampNeg = _; rw [c1]; exact inc1N (n := 16) hV.1.2.1 (by decide)
  have k0 : cN τ 0 = cN σ 0 := by show (τ.1 2 0).toNatClampNeg = _; rw [c0]
  have k2 : cN τ 2 = cN σ 2 := by show (τ.1 2 2).toNatClampNeg = _; rw [c2]
  have k3 : cN τ 3 = cN σ 3 := by show (τ.1 2 3).toNatClampNeg = _; rw [c3]
  have k4 : cN τ 4 = cN σ 4 := by show (τ.1 2 4).toNatClampNeg = _; rw [c4]
  have nw : ∀ t i, t < 7 → i < cnt τ t → ¬ i < cnt σ t → (t = 1) ∧ i = cN σ 1 := fun t i ht h1 h2 => by
    rcases lt7 ht with rfl | rfl | rfl | rfl | rfl | rfl | rfl
    · have h1 : i < cN τ 0 := h1
      have h2 : ¬ i < cN σ 0 := h2
      omega
    · have h1 : i < cN τ 1 := h1
      have h2 : ¬ i < cN σ 1 := h2
      exact ⟨rfl, by omega⟩
    · have h1 : i < cN τ 2 := h1
      have h2 : ¬ i < cN σ 2 := h2
      omega
    · have h1 : i < cN τ 2 := h1
      have h2 : ¬ i < cN σ 2 := h2
      omega
    · have h1 : i < cN τ 3 := h1
      have h2 : ¬ i < cN σ 3 := h2
      omega
    · have h1 : i < cN τ 4 := h1
      have h2 : ¬ i < cN σ 4 := h2
      omega
    · have h1 : i < cN τ 4 := h1
      have h2 : ¬ i < cN σ 4 := h2
      omega
  refine ⟨CO_add h.1 (fun a ha => List.mem_append_left _ ha) (fun a ha => va_up_ne f _ (fun e => hq (e ▸ ha))) (fun t i ht hi => ?_) (fun t i x ht hi hc => ?_) (fun t i ht h1 h2 => ?_) (fun t i t2 i2 ht ht2 h1 h2 h3 h4 h5 => ?_), ?_⟩
  · rcases lt7 ht with rfl | rfl | rfl | rfl | rfl | rfl | rfl
    · rfl
    · exact up_ne (Nat.ne_of_lt hi)
    · rfl
    · rfl
    · rfl
    · rfl
    · rfl
  · rcases lt7 ht with rfl | rfl | rfl | rfl | rfl | rfl | rfl
    · have hi : i < cN σ 0 := hi
      exact Ct_c0 hc (congrFun i3 i) (congrFun j0 i) (congrFun j1 i)
    · have hi : i < cN σ 1 := hi
      exact Ct_c1 hc ((congrFun i4 i).trans (upd_ne (Nat.ne_of_lt hi))) ((congrFun j2 i).trans (updL_ne (Nat.ne_of_lt hi)))
    · have hi : i < cN σ 2 := hi
      exact Ct_c2 hc (congrFun i5 i) (congrFun i7 i) rfl
    · have hi : i < cN σ 2 := hi
      exact Ct_c3 hc (congrFun i6 i) (fun j hj => congrFun j3 _)
    · have hi : i < cN σ 3 := hi
      exact Ct_c4 hc (congrFun i8 i) (congrArg (fun v => ad 0 (ix v)) (congrFun i9 i))
    · have hi : i < cN σ 4 := hi
      exact Ct_c5 hc (congrFun i10 i) rfl
    · have hi : i < cN σ 4 := hi
      exact Ct_c6 hc (congrFun i11 i) (fun j hj => congrArg (pR (ad 4)) (congrFun i12 _))
  · obtain ⟨rfl, rfl⟩ := nw t i ht h1 h2
    have e : (adp ad 1 (cN σ 1) q) 1 (cN σ 1) = q := va_up_self (ad 1) (cN σ 1) q
    rw [e]
    refine ⟨List.mem_append_right _ (List.mem_singleton.mpr rfl), hq, ?_⟩
    rw [va_up_self]
    show _ = (Sum.inr (1, [.int (τ.1 4 (cN σ 1)), .long (τ.2 2 (cN σ 1))]) : va_E)
    rw [i4, j2, upd_eq, updL_eq]
  · obtain ⟨a1, rfl⟩ := nw t i ht h1 h2
    obtain ⟨a2, rfl⟩ := nw t2 i2 ht2 h3 h4
    exact ⟨a1.trans a2.symm, rfl⟩
  · exact ⟨fun i hi => h.2.1 i (by have hi : i < cN τ 0 := hi; rwa [k0] at hi), fun i hi => ga_up (n := 0) (N := 16) hV.1.2.1 (by decide) h.2.2.1 i (by have hi : i < (τ.1 2 1).toNatClampNeg := hi; rwa [c1] at hi), fun i hi => h.2.2.2.1 i (by have hi : i < cN τ 2 := hi; rwa [k2] at hi), fun i hi => h.2.2.2.2.1 i (by have hi : i < cN τ 3 := hi; rwa [k3] at hi), fun i hi => h.2.2.2.2.2 i (by have hi : i < cN τ 4 := hi; rwa [k4] at hi)⟩

theorem CI_pointer {z : Nat → ClassId} {σ : St} {L : List Nat} {f : Nat → va_E} {ad : Nat → Nat → Nat} {g : Nat → Nat → Option Nat} {k w : Int32} {q : Nat} (hV : vOK σ) (h : CI z σ L f ad g) (hq : q ∉ L) : CI z (sI (sI (sI (ok0 σ) 8 (cN σ 3) k) 9 (cN σ 3) w) 2 3 (σ.1 2 3 + 1)) (L ++ [q]) (va_up f q (.inr (0, [.int k, .ref (ad 0 (ix w))]))) (adp ad 4 (cN σ 3) q) (fun t => if t = 3 then va_up (g 3) (cN σ 3) (some q) else g t) := by
  generalize hσ : sI (sI (sI (ok0 σ) 8 (cN σ 3) k) 9 (cN σ 3) w) 2 3 (σ.1 2 3 + 1) = τ
  have c0 : τ.1 2 0 = σ.1 2 0 := by rw [← hσ]; simp [sI, sJ, sA, sB, ok0, upd]
  have c1 : τ.1 2 1 = σ.1 2 1 := by rw [← hσ]; simp [sI, sJ, sA, sB, ok0, upd]
  have c2 : τ.1 2 2 = σ.1 2 2 := by rw [← hσ]; simp [sI, sJ, sA, sB, ok0, upd]
  have c3 : τ.1 2 3 = σ.1 2 3 + 1 := by rw [← hσ]; simp [sI, sJ, sA, sB, ok0, upd]
  have c4 : τ.1 2 4 = σ.1 2 4 := by rw [← hσ]; simp [sI, sJ, sA, sB, ok0, upd]
  have i3 : τ.1 3 = σ.1 3 := by rw [← hσ]; simp [sI, sJ, sA, sB, ok0]
  have i4 : τ.1 4 = σ.1 4 := by rw [← hσ]; simp [sI, sJ, sA, sB, ok0]
  have i5 : τ.1 5 = σ.1 5 := by rw [← hσ]; simp [sI, sJ, sA, sB, ok0]
  have i6 : τ.1 6 = σ.1 6 := by rw [← hσ]; simp [sI, sJ, sA, sB, ok0]
  have i7 : τ.1 7 = σ.1 7 := by rw [← hσ]; simp [sI, sJ, sA, sB, ok0]
  have i8 : τ.1 8 = upd (σ.1 8) (cN σ 3) k := by rw [← hσ]; simp [sI, sJ, sA, sB, ok0]
  have i9 : τ.1 9 = upd (σ.1 9) (cN σ 3) w := by rw [← hσ]; simp [sI, sJ, sA, sB, ok0]
  have i10 : τ.1 10 = σ.1 10 := by rw [← hσ]; simp [sI, sJ, sA, sB, ok0]
  have i11 : τ.1 11 = σ.1 11 := by rw [← hσ]; simp [sI, sJ, sA, sB, ok0]
  have i12 : τ.1 12 = σ.1 12 := by rw [← hσ]; simp [sI, sJ, sA, sB, ok0]
  have j0 : τ.2 0 = σ.2 0 := by rw [← hσ]; simp [sI, sJ, sA, sB, ok0]
  have j1 : τ.2 1 = σ.2 1 := by rw [← hσ]; simp [sI, sJ, sA, sB, ok0]
  have j2 : τ.2 2 = σ.2 2 := by rw [← hσ]; simp [sI, sJ, sA, sB, ok0]
  have j3 : τ.2 3 = σ.2 3 := by rw [← hσ]; simp [sI, sJ, sA, sB, ok0]
  clear hσ
  have hcn : cN τ 3 = cN σ 3 + 1 := by show (τ.1 2 3).toNatClampNeg = _; rw [c3]; exact inc1N (n := 12) hV.1.2.2.2.1 (by decide)
  have k0 : cN τ 0 = cN σ 0 := by show (τ.1 2 0).toNatClampNeg = _; rw [c0]
  have k1 : cN τ 1 = cN σ 1 := by show (τ.1 2 1).toNatClampNeg = _; rw [c1]
  have k2 : cN τ 2 = cN σ 2 := by show (τ.1 2 2).toNatClampNeg = _; rw [c2]
  have k4 : cN τ 4 = cN σ 4 := by show (τ.1 2 4).toNatClampNeg = _; rw [c4]
  have nw : ∀ t i, t < 7 → i < cnt τ t → ¬ i < cnt σ t → (t = 4) ∧ i = cN σ 3 := fun t i ht h1 h2 => by
    rcases lt7 ht with rfl | rfl | rfl | rfl | rfl | rfl | rfl
    · have h1 : i < cN τ 0 := h1
      have h2 : ¬ i < cN σ 0 := h2
      omega
    · have h1 : i < cN τ 1 := h1
      have h2 : ¬ i < cN σ 1 := h2
      omega
    · have h1 : i < cN τ 2 := h1
      have h2 : ¬ i < cN σ 2 := h2
      omega
    · have h1 : i < cN τ 2 := h1
      have h2 : ¬ i < cN σ 2 := h2
      omega
    · have h1 : i < cN τ 3 := h1
      have h2 : ¬ i < cN σ 3 := h2
      exact ⟨rfl, by omega⟩
    · have h1 : i < cN τ 4 := h1
      have h2 : ¬ i < cN σ 4 := h2
      omega
    · have h1 : i < cN τ 4 := h1
      have h2 : ¬ i < cN σ 4 := h2
      omega
  refine ⟨CO_add h.1 (fun a ha => List.mem_append_left _ ha) (fun a ha => va_up_ne f _ (fun e => hq (e ▸ ha))) (fun t i ht hi => ?_) (fun t i x ht hi hc => ?_) (fun t i ht h1 h2 => ?_) (fun t i t2 i2 ht ht2 h1 h2 h3 h4 h5 => ?_), ?_⟩
  · rcases lt7 ht with rfl | rfl | rfl | rfl | rfl | rfl | rfl
    · rfl
    · rfl
    · rfl
    · rfl
    · exact up_ne (Nat.ne_of_lt hi)
    · rfl
    · rfl
  · rcases lt7 ht with rfl | rfl | rfl | rfl | rfl | rfl | rfl
    · have hi : i < cN σ 0 := hi
      exact Ct_c0 hc (congrFun i3 i) (congrFun j0 i) (congrFun j1 i)
    · have hi : i < cN σ 1 := hi
      exact Ct_c1 hc (congrFun i4 i) (congrFun j2 i)
    · have hi : i < cN σ 2 := hi
      exact Ct_c2 hc (congrFun i5 i) (congrFun i7 i) rfl
    · have hi : i < cN σ 2 := hi
      exact Ct_c3 hc (congrFun i6 i) (fun j hj => congrFun j3 _)
    · have hi : i < cN σ 3 := hi
      exact Ct_c4 hc ((congrFun i8 i).trans (upd_ne (Nat.ne_of_lt hi))) (congrArg (fun v => ad 0 (ix v)) ((congrFun i9 i).trans (upd_ne (Nat.ne_of_lt hi))))
    · have hi : i < cN σ 4 := hi
      exact Ct_c5 hc (congrFun i10 i) rfl
    · have hi : i < cN σ 4 := hi
      refine Ct_c6 hc (congrFun i11 i) (fun j hj => ?_)
      show pR (va_up (ad 4) (cN σ 3) q) (τ.1 12 (6 * i + j)) = _
      rw [i12]
      unfold pR
      by_cases e : σ.1 12 (6 * i + j) = -1
      · rw [if_pos e, if_pos e]
      · rw [if_neg e, if_neg e, up_ne (Nat.ne_of_lt ?_)]
        have p : 0 ≤ (σ.1 12 (6 * i + j)).toInt ∧ (σ.1 12 (6 * i + j)).toInt < (σ.1 2 3).toInt := ((hV.2.2.2.2.2 i hi).2.2 j hj).resolve_left e
        show (σ.1 12 (6 * i + j)).toInt.toNat < (σ.1 2 3).toInt.toNat
        omega
  · obtain ⟨rfl, rfl⟩ := nw t i ht h1 h2
    have e : (adp ad 4 (cN σ 3) q) 4 (cN σ 3) = q := va_up_self (ad 4) (cN σ 3) q
    rw [e]
    refine ⟨List.mem_append_right _ (List.mem_singleton.mpr rfl), hq, ?_⟩
    rw [va_up_self]
    show _ = (Sum.inr (0, [.int (τ.1 8 (cN σ 3)), .ref (ad 0 (ix (τ.1 9 (cN σ 3))))]) : va_E)
    rw [i8, i9, upd_eq, upd_eq]
  · obtain ⟨a1, rfl⟩ := nw t i ht h1 h2
    obtain ⟨a2, rfl⟩ := nw t2 i2 ht2 h3 h4
    exact ⟨a1.trans a2.symm, rfl⟩
  · exact ⟨fun i hi => h.2.1 i (by have hi : i < cN τ 0 := hi; rwa [k0] at hi), fun i hi => h.2.2.1 i (by have hi : i < cN τ 1 := hi; rwa [k1] at hi), fun i hi => h.2.2.2.1 i (by have hi : i < cN τ 2 := hi; rwa [k2] at hi), fun i hi => ga_up (n := 0) (N := 12) hV.1.2.2.2.1 (by decide) h.2.2.2.2.1 i (by have hi : i < (τ.1 2 3).toNatClampNeg := hi; rwa [c3] at hi), fun i hi => h.2.2.2.2.2 i (by have hi : i < cN τ 4 := hi; rwa [k4] at hi)⟩

theorem CI_strip {z : Nat → ClassId} {σ : St} {L : List Nat} {f : Nat → va_E} {ad : Nat → Nat → Nat} {g : Nat → Nat → Option Nat} {k n : Int32} {q r : Nat} (hV : vOK σ) (h : CI z σ L f ad g) (hq : q ∉ L) (hr : r ∉ L ++ [q]) : CI z (sI (sB (sI (sI (sI (ok0 σ) 5 (cN σ 2) k) 6 (cN σ 2) n) 7 (cN σ 2) 0) 3 (fun q => if 16 * cN σ 2 ≤ q ∧ q < 16 * cN σ 2 + 16 then 0 else σ.2 3 q)) 2 2 (σ.1 2 2 + 1)) ((L ++ [q]) ++ [r]) (va_up (va_up f q (.inr (3, [.int k, .ref r]))) r (.inl (z 6, ix n, .inr (.inl (fun _ => 0))))) (adp (adp ad 2 (cN σ 2) q) 3 (cN σ 2) r) (fun t => if t = 2 then va_up (g 2) (cN σ 2) (some q) else g t) := by
  generalize hσ : sI (sB (sI (sI (sI (ok0 σ) 5 (cN σ 2) k) 6 (cN σ 2) n) 7 (cN σ 2) 0) 3 (fun q => if 16 * cN σ 2 ≤ q ∧ q < 16 * cN σ 2 + 16 then 0 else σ.2 3 q)) 2 2 (σ.1 2 2 + 1) = τ
  have c0 : τ.1 2 0 = σ.1 2 0 := by rw [← hσ]; simp [sI, sJ, sA, sB, ok0, upd]
  have c1 : τ.1 2 1 = σ.1 2 1 := by rw [← hσ]; simp [sI, sJ, sA, sB, ok0, upd]
  have c2 : τ.1 2 2 = σ.1 2 2 + 1 := by rw [← hσ]; simp [sI, sJ, sA, sB, ok0, upd]
  have c3 : τ.1 2 3 = σ.1 2 3 := by rw [← hσ]; simp [sI, sJ, sA, sB, ok0, upd]
  have c4 : τ.1 2 4 = σ.1 2 4 := by rw [← hσ]; simp [sI, sJ, sA, sB, ok0, upd]
  have i3 : τ.1 3 = σ.1 3 := by rw [← hσ]; simp [sI, sJ, sA, sB, ok0]
  have i4 : τ.1 4 = σ.1 4 := by rw [← hσ]; simp [sI, sJ, sA, sB, ok0]
  have i5 : τ.1 5 = upd (σ.1 5) (cN σ 2) k := by rw [← hσ]; simp [sI, sJ, sA, sB, ok0]
  have i6 : τ.1 6 = upd (σ.1 6) (cN σ 2) n := by rw [← hσ]; simp [sI, sJ, sA, sB, ok0]
  have i7 : τ.1 7 = upd (σ.1 7) (cN σ 2) 0 := by rw [← hσ]; simp [sI, sJ, sA, sB, ok0]
  have i8 : τ.1 8 = σ.1 8 := by rw [← hσ]; simp [sI, sJ, sA, sB, ok0]
  have i9 : τ.1 9 = σ.1 9 := by rw [← hσ]; simp [sI, sJ, sA, sB, ok0]
  have i10 : τ.1 10 = σ.1 10 := by rw [← hσ]; simp [sI, sJ, sA, sB, ok0]
  have i11 : τ.1 11 = σ.1 11 := by rw [← hσ]; simp [sI, sJ, sA, sB, ok0]
  have i12 : τ.1 12 = σ.1 12 := by rw [← hσ]; simp [sI, sJ, sA, sB, ok0]
  have j0 : τ.2 0 = σ.2 0 := by rw [← hσ]; simp [sI, sJ, sA, sB, ok0]
  have j1 : τ.2 1 = σ.2 1 := by rw [← hσ]; simp [sI, sJ, sA, sB, ok0]
  have j2 : τ.2 2 = σ.2 2 := by rw [← hσ]; simp [sI, sJ, sA, sB, ok0]
  have j3 : τ.2 3 = (fun q => if 16 * cN σ 2 ≤ q ∧ q < 16 * cN σ 2 + 16 then 0 else σ.2 3 q) := by rw [← hσ]; simp [sI, sJ, sA, sB, ok0]
  clear hσ
  have hcn : cN τ 2 = cN σ 2 + 1 := by show (τ.1 2 2).toNatClampNeg = _; rw [c2]; exact inc1N (n := 8) hV.1.2.2.1 (by decide)
  have k0 : cN τ 0 = cN σ 0 := by show (τ.1 2 0).toNatClampNeg = _; rw [c0]
  have k1 : cN τ 1 = cN σ 1 := by show (τ.1 2 1).toNatClampNeg = _; rw [c1]
  have k3 : cN τ 3 = cN σ 3 := by show (τ.1 2 3).toNatClampNeg = _; rw [c3]
  have k4 : cN τ 4 = cN σ 4 := by show (τ.1 2 4).toNatClampNeg = _; rw [c4]
  have hrL : r ∉ L := fun e => hr (List.mem_append_left _ e)
  have hrq : r ≠ q := fun e => hr (by rw [e]; exact List.mem_append_right _ (List.mem_singleton.mpr rfl))
  have nw : ∀ t i, t < 7 → i < cnt τ t → ¬ i < cnt σ t → (t = 2 ∨ t = 3) ∧ i = cN σ 2 := fun t i ht h1 h2 => by
    rcases lt7 ht with rfl | rfl | rfl | rfl | rfl | rfl | rfl
    · have h1 : i < cN τ 0 := h1
      have h2 : ¬ i < cN σ 0 := h2
      omega
    · have h1 : i < cN τ 1 := h1
      have h2 : ¬ i < cN σ 1 := h2
      omega
    · have h1 : i < cN τ 2 := h1
      have h2 : ¬ i < cN σ 2 := h2
      exact ⟨Or.inl rfl, by omega⟩
    · have h1 : i < cN τ 2 := h1
      have h2 : ¬ i < cN σ 2 := h2
      exact ⟨Or.inr rfl, by omega⟩
    · have h1 : i < cN τ 3 := h1
      have h2 : ¬ i < cN σ 3 := h2
      omega
    · have h1 : i < cN τ 4 := h1
      have h2 : ¬ i < cN σ 4 := h2
      omega
    · have h1 : i < cN τ 4 := h1
      have h2 : ¬ i < cN σ 4 := h2
      omega
  refine ⟨CO_add h.1 (fun a ha => List.mem_append_left _ (List.mem_append_left _ ha)) (fun a ha => (va_up_ne _ (j := a) (k := r) _ (fun e => hrL (e ▸ ha))).trans (va_up_ne f (j := a) (k := q) _ (fun e => hq (e ▸ ha)))) (fun t i ht hi => ?_) (fun t i x ht hi hc => ?_) (fun t i ht h1 h2 => ?_) (fun t i t2 i2 ht ht2 h1 h2 h3 h4 h5 => ?_), ?_⟩
  · rcases lt7 ht with rfl | rfl | rfl | rfl | rfl | rfl | rfl
    · rfl
    · rfl
    · exact up_ne (Nat.ne_of_lt hi)
    · exact up_ne (Nat.ne_of_lt hi)
    · rfl
    · rfl
    · rfl
  · rcases lt7 ht with rfl | rfl | rfl | rfl | rfl | rfl | rfl
    · have hi : i < cN σ 0 := hi
      exact Ct_c0 hc (congrFun i3 i) (congrFun j0 i) (congrFun j1 i)
    · have hi : i < cN σ 1 := hi
      exact Ct_c1 hc (congrFun i4 i) (congrFun j2 i)
    · have hi : i < cN σ 2 := hi
      exact Ct_c2 hc ((congrFun i5 i).trans (upd_ne (Nat.ne_of_lt hi))) ((congrFun i7 i).trans (upd_ne (Nat.ne_of_lt hi))) (up_ne (Nat.ne_of_lt hi))
    · have hi : i < cN σ 2 := hi
      refine Ct_c3 hc ((congrFun i6 i).trans (upd_ne (Nat.ne_of_lt hi))) (fun j hj => (congrFun j3 _).trans ?_)
      show (if 16 * cN σ 2 ≤ 16 * i + j ∧ 16 * i + j < 16 * cN σ 2 + 16 then 0 else σ.2 3 (16 * i + j)) = _
      generalize cN σ 2 = cc at *
      rw [if_neg (by omega)]
    · have hi : i < cN σ 3 := hi
      exact Ct_c4 hc (congrFun i8 i) (congrArg (fun v => ad 0 (ix v)) (congrFun i9 i))
    · have hi : i < cN σ 4 := hi
      exact Ct_c5 hc (congrFun i10 i) rfl
    · have hi : i < cN σ 4 := hi
      exact Ct_c6 hc (congrFun i11 i) (fun j hj => congrArg (pR (ad 4)) (congrFun i12 _))
  · obtain ⟨rfl | rfl, rfl⟩ := nw t i ht h1 h2
    · have e : (adp (adp ad 2 (cN σ 2) q) 3 (cN σ 2) r) 2 (cN σ 2) = q := va_up_self (ad 2) (cN σ 2) q
      rw [e]
      refine ⟨List.mem_append_left _ (List.mem_append_right _ (List.mem_singleton.mpr rfl)), hq, ?_⟩
      rw [va_up_ne _ _ hrq.symm, va_up_self]
      show _ = (Sum.inr (3, [.int (τ.1 5 (cN σ 2)), sR (va_up (ad 3) (cN σ 2) r (cN σ 2)) (τ.1 7 (cN σ 2))]) : va_E)
      rw [i5, i7, upd_eq, upd_eq, va_up_self]; unfold sR; rw [if_pos rfl]
    · have e : (adp (adp ad 2 (cN σ 2) q) 3 (cN σ 2) r) 3 (cN σ 2) = r := va_up_self (ad 3) (cN σ 2) r
      rw [e]
      refine ⟨List.mem_append_right _ (List.mem_singleton.mpr rfl), hrL, ?_⟩
      rw [va_up_self]
      refine ⟨fun _ => 0, ?_, fun j hj => ?_⟩
      · show _ = (Sum.inl (z 6, ix (τ.1 6 (cN σ 2)), .inr (.inl (fun _ => 0))) : va_E)
        rw [i6, upd_eq]
      · rw [j3]
        show 0 = if 16 * cN σ 2 ≤ 16 * cN σ 2 + j ∧ 16 * cN σ 2 + j < 16 * cN σ 2 + 16 then 0 else σ.2 3 (16 * cN σ 2 + j)
        rw [if_pos (by omega)]
  · obtain ⟨a1, rfl⟩ := nw t i ht h1 h2
    obtain ⟨a2, rfl⟩ := nw t2 i2 ht2 h3 h4
    have e2 : (adp (adp ad 2 (cN σ 2) q) 3 (cN σ 2) r) 2 (cN σ 2) = q := va_up_self (ad 2) (cN σ 2) q
    have e3 : (adp (adp ad 2 (cN σ 2) q) 3 (cN σ 2) r) 3 (cN σ 2) = r := va_up_self (ad 3) (cN σ 2) r
    refine ⟨?_, rfl⟩
    rcases a1 with rfl | rfl <;> rcases a2 with rfl | rfl
    · rfl
    · rw [e2, e3] at h5; exact absurd h5.symm hrq
    · rw [e2, e3] at h5; exact absurd h5 hrq
    · rfl
  · exact ⟨fun i hi => h.2.1 i (by have hi : i < cN τ 0 := hi; rwa [k0] at hi), fun i hi => h.2.2.1 i (by have hi : i < cN τ 1 := hi; rwa [k1] at hi), fun i hi => ga_up (n := 0) (N := 8) hV.1.2.2.1 (by decide) h.2.2.2.1 i (by have hi : i < (τ.1 2 2).toNatClampNeg := hi; rwa [c2] at hi), fun i hi => h.2.2.2.2.1 i (by have hi : i < cN τ 3 := hi; rwa [k3] at hi), fun i hi => h.2.2.2.2.2 i (by have hi : i < cN τ 4 := hi; rwa [k4] at hi)⟩

theorem CI_stand {z : Nat → ClassId} {σ : St} {L : List Nat} {f : Nat → va_E} {ad : Nat → Nat → Nat} {g : Nat → Nat → Option Nat} {k n : Int32} {q r : Nat} (hV : vOK σ) (h : CI z σ L f ad g) (hq : q ∉ L) (hr : r ∉ L ++ [q]) : CI z (sI (sA (sI (sI (ok0 σ) 10 (cN σ 4) k) 11 (cN σ 4) n) 12 (fun q => if 6 * cN σ 4 ≤ q ∧ q < 6 * cN σ 4 + 6 then -1 else σ.1 12 q)) 2 4 (σ.1 2 4 + 1)) ((L ++ [q]) ++ [r]) (va_up (va_up f q (.inr (2, [.int k, .ref r]))) r (.inl (z 3, ix n, .inr (.inr (.inr (.inr (fun _ => none))))))) (adp (adp ad 5 (cN σ 4) q) 6 (cN σ 4) r) (fun t => if t = 4 then va_up (g 4) (cN σ 4) (some q) else g t) := by
  generalize hσ : sI (sA (sI (sI (ok0 σ) 10 (cN σ 4) k) 11 (cN σ 4) n) 12 (fun q => if 6 * cN σ 4 ≤ q ∧ q < 6 * cN σ 4 + 6 then -1 else σ.1 12 q)) 2 4 (σ.1 2 4 + 1) = τ
  have c0 : τ.1 2 0 = σ.1 2 0 := by rw [← hσ]; simp [sI, sJ, sA, sB, ok0, upd]
  have c1 : τ.1 2 1 = σ.1 2 1 := by rw [← hσ]; simp [sI, sJ, sA, sB, ok0, upd]
  have c2 : τ.1 2 2 = σ.1 2 2 := by rw [← hσ]; simp [sI, sJ, sA, sB, ok0, upd]
  have c3 : τ.1 2 3 = σ.1 2 3 := by rw [← hσ]; simp [sI, sJ, sA, sB, ok0, upd]
  have c4 : τ.1 2 4 = σ.1 2 4 + 1 := by rw [← hσ]; simp [sI, sJ, sA, sB, ok0, upd]
  have i3 : τ.1 3 = σ.1 3 := by rw [← hσ]; simp [sI, sJ, sA, sB, ok0]
  have i4 : τ.1 4 = σ.1 4 := by rw [← hσ]; simp [sI, sJ, sA, sB, ok0]
  have i5 : τ.1 5 = σ.1 5 := by rw [← hσ]; simp [sI, sJ, sA, sB, ok0]
  have i6 : τ.1 6 = σ.1 6 := by rw [← hσ]; simp [sI, sJ, sA, sB, ok0]
  have i7 : τ.1 7 = σ.1 7 := by rw [← hσ]; simp [sI, sJ, sA, sB, ok0]
  have i8 : τ.1 8 = σ.1 8 := by rw [← hσ]; simp [sI, sJ, sA, sB, ok0]
  have i9 : τ.1 9 = σ.1 9 := by rw [← hσ]; simp [sI, sJ, sA, sB, ok0]
  have i10 : τ.1 10 = upd (σ.1 10) (cN σ 4) k := by rw [← hσ]; simp [sI, sJ, sA, sB, ok0]
  have i11 : τ.1 11 = upd (σ.1 11) (cN σ 4) n := by rw [← hσ]; simp [sI, sJ, sA, sB, ok0]
  have i12 : τ.1 12 = (fun q => if 6 * cN σ 4 ≤ q ∧ q < 6 * cN σ 4 + 6 then -1 else σ.1 12 q) := by rw [← hσ]; simp [sI, sJ, sA, sB, ok0]
  have j0 : τ.2 0 = σ.2 0 := by rw [← hσ]; simp [sI, sJ, sA, sB, ok0]
  have j1 : τ.2 1 = σ.2 1 := by rw [← hσ]; simp [sI, sJ, sA, sB, ok0]
  have j2 : τ.2 2 = σ.2 2 := by rw [← hσ]; simp [sI, sJ, sA, sB, ok0]
  have j3 : τ.2 3 = σ.2 3 := by rw [← hσ]; simp [sI, sJ, sA, sB, ok0]
  clear hσ
  have hcn : cN τ 4 = cN σ 4 + 1 := by show (τ.1 2 4).toNatClampNeg = _; rw [c4]; exact inc1N (n := 8) hV.1.2.2.2.2 (by decide)
  have k0 : cN τ 0 = cN σ 0 := by show (τ.1 2 0).toNatClampNeg = _; rw [c0]
  have k1 : cN τ 1 = cN σ 1 := by show (τ.1 2 1).toNatClampNeg = _; rw [c1]
  have k2 : cN τ 2 = cN σ 2 := by show (τ.1 2 2).toNatClampNeg = _; rw [c2]
  have k3 : cN τ 3 = cN σ 3 := by show (τ.1 2 3).toNatClampNeg = _; rw [c3]
  have hrL : r ∉ L := fun e => hr (List.mem_append_left _ e)
  have hrq : r ≠ q := fun e => hr (by rw [e]; exact List.mem_append_right _ (List.mem_singleton.mpr rfl))
  have nw : ∀ t i, t < 7 → i < cnt τ t → ¬ i < cnt σ t → (t = 5 ∨ t = 6) ∧ i = cN σ 4 := fun t i ht h1 h2 => by
    rcases lt7 ht with rfl | rfl | rfl | rfl | rfl | rfl | rfl
    · have h1 : i < cN τ 0 := h1
      have h2 : ¬ i < cN σ 0 := h2
      omega
    · have h1 : i < cN τ 1 := h1
      have h2 : ¬ i < cN σ 1 := h2
      omega
    · have h1 : i < cN τ 2 := h1
      have h2 : ¬ i < cN σ 2 := h2
      omega
    · have h1 : i < cN τ 2 := h1
      have h2 : ¬ i < cN σ 2 := h2
      omega
    · have h1 : i < cN τ 3 := h1
      have h2 : ¬ i < cN σ 3 := h2
      omega
    · have h1 : i < cN τ 4 := h1
      have h2 : ¬ i < cN σ 4 := h2
      exact ⟨Or.inl rfl, by omega⟩
    · have h1 : i < cN τ 4 := h1
      have h2 : ¬ i < cN σ 4 := h2
      exact ⟨Or.inr rfl, by omega⟩
  refine ⟨CO_add h.1 (fun a ha => List.mem_append_left _ (List.mem_append_left _ ha)) (fun a ha => (va_up_ne _ (j := a) (k := r) _ (fun e => hrL (e ▸ ha))).trans (va_up_ne f (j := a) (k := q) _ (fun e => hq (e ▸ ha)))) (fun t i ht hi => ?_) (fun t i x ht hi hc => ?_) (fun t i ht h1 h2 => ?_) (fun t i t2 i2 ht ht2 h1 h2 h3 h4 h5 => ?_), ?_⟩
  · rcases lt7 ht with rfl | rfl | rfl | rfl | rfl | rfl | rfl
    · rfl
    · rfl
    · rfl
    · rfl
    · rfl
    · exact up_ne (Nat.ne_of_lt hi)
    · exact up_ne (Nat.ne_of_lt hi)
  · rcases lt7 ht with rfl | rfl | rfl | rfl | rfl | rfl | rfl
    · have hi : i < cN σ 0 := hi
      exact Ct_c0 hc (congrFun i3 i) (congrFun j0 i) (congrFun j1 i)
    · have hi : i < cN σ 1 := hi
      exact Ct_c1 hc (congrFun i4 i) (congrFun j2 i)
    · have hi : i < cN σ 2 := hi
      exact Ct_c2 hc (congrFun i5 i) (congrFun i7 i) rfl
    · have hi : i < cN σ 2 := hi
      exact Ct_c3 hc (congrFun i6 i) (fun j hj => congrFun j3 _)
    · have hi : i < cN σ 3 := hi
      exact Ct_c4 hc (congrFun i8 i) (congrArg (fun v => ad 0 (ix v)) (congrFun i9 i))
    · have hi : i < cN σ 4 := hi
      exact Ct_c5 hc ((congrFun i10 i).trans (upd_ne (Nat.ne_of_lt hi))) (up_ne (Nat.ne_of_lt hi))
    · have hi : i < cN σ 4 := hi
      refine Ct_c6 hc ((congrFun i11 i).trans (upd_ne (Nat.ne_of_lt hi))) (fun j hj => ?_)
      show pR (ad 4) (τ.1 12 (6 * i + j)) = _
      have ee : τ.1 12 (6 * i + j) = σ.1 12 (6 * i + j) := by
        rw [i12]
        show (if 6 * cN σ 4 ≤ 6 * i + j ∧ 6 * i + j < 6 * cN σ 4 + 6 then -1 else σ.1 12 (6 * i + j)) = _
        generalize cN σ 4 = cc at *
        rw [if_neg (by omega)]
      rw [ee]
  · obtain ⟨rfl | rfl, rfl⟩ := nw t i ht h1 h2
    · have e : (adp (adp ad 5 (cN σ 4) q) 6 (cN σ 4) r) 5 (cN σ 4) = q := va_up_self (ad 5) (cN σ 4) q
      rw [e]
      refine ⟨List.mem_append_left _ (List.mem_append_right _ (List.mem_singleton.mpr rfl)), hq, ?_⟩
      rw [va_up_ne _ _ hrq.symm, va_up_self]
      show _ = (Sum.inr (2, [.int (τ.1 10 (cN σ 4)), .ref (va_up (ad 6) (cN σ 4) r (cN σ 4))]) : va_E)
      rw [i10, upd_eq, va_up_self]
    · have e : (adp (adp ad 5 (cN σ 4) q) 6 (cN σ 4) r) 6 (cN σ 4) = r := va_up_self (ad 6) (cN σ 4) r
      rw [e]
      refine ⟨List.mem_append_right _ (List.mem_singleton.mpr rfl), hrL, ?_⟩
      rw [va_up_self]
      refine ⟨fun _ => none, ?_, fun j hj => ?_⟩
      · show _ = (Sum.inl (z 3, ix (τ.1 11 (cN σ 4)), .inr (.inr (.inr (.inr (fun _ => none))))) : va_E)
        rw [i11, upd_eq]
      · have ee : τ.1 12 (6 * cN σ 4 + j) = -1 := by
          rw [i12]
          show (if 6 * cN σ 4 ≤ 6 * cN σ 4 + j ∧ 6 * cN σ 4 + j < 6 * cN σ 4 + 6 then -1 else σ.1 12 (6 * cN σ 4 + j)) = _
          rw [if_pos (by omega)]
        show none = pR (ad 4) (τ.1 12 (6 * cN σ 4 + j))
        rw [ee]; unfold pR; rw [if_pos rfl]
  · obtain ⟨a1, rfl⟩ := nw t i ht h1 h2
    obtain ⟨a2, rfl⟩ := nw t2 i2 ht2 h3 h4
    have e2 : (adp (adp ad 5 (cN σ 4) q) 6 (cN σ 4) r) 5 (cN σ 4) = q := va_up_self (ad 5) (cN σ 4) q
    have e3 : (adp (adp ad 5 (cN σ 4) q) 6 (cN σ 4) r) 6 (cN σ 4) = r := va_up_self (ad 6) (cN σ 4) r
    refine ⟨?_, rfl⟩
    rcases a1 with rfl | rfl <;> rcases a2 with rfl | rfl
    · rfl
    · rw [e2, e3] at h5; exact absurd h5.symm hrq
    · rw [e2, e3] at h5; exact absurd h5 hrq
    · rfl
  · exact ⟨fun i hi => h.2.1 i (by have hi : i < cN τ 0 := hi; rwa [k0] at hi), fun i hi => h.2.2.1 i (by have hi : i < cN τ 1 := hi; rwa [k1] at hi), fun i hi => h.2.2.2.1 i (by have hi : i < cN τ 2 := hi; rwa [k2] at hi), fun i hi => h.2.2.2.2.1 i (by have hi : i < cN τ 3 := hi; rwa [k3] at hi), fun i hi => ga_up (n := 0) (N := 8) hV.1.2.2.2.2 (by decide) h.2.2.2.2.2 i (by have hi : i < (τ.1 2 4).toNatClampNeg := hi; rwa [c4] at hi)⟩

/-! machine-free: SENTENCE: codes and marks -/
def cW (w : Nat) : Nat := if w = 11 then 22 else if w = 12 then 21 else if w = 13 then 20 else w - 14
def uW (x : Nat) : Nat := if x = 20 then 13 else if x = 21 then 12 else 11
def SE (nm np : Nat) (A B C x y z : Int32) : Prop := ∃ w, 11 ≤ w ∧ w ≤ 21 ∧ A = nI w ∧ x = nI (cW w) ∧ B = y ∧ C = z ∧ (w = 17 → ∃ q, q < np ∧ z = nI q) ∧ (w = 18 → ∃ m, m < nm ∧ z = nI m) ∧ (19 ≤ w → (y = nI 60 ∨ y = nI 61 ∨ y = nI 62) ∧ ∃ v, v ≤ 999 ∧ z = nI v)
def dpS (A : Int32) (x : Nat) : Nat := if A = nI 11 ∨ A = nI 12 then x - 1 else if A = nI 13 then x else x + 1
def dpW (W : Nat → Int32) : Nat → Nat
  | 0 => 0
  | i + 1 => dpS (W i) (dpW W i)
def okW (W : Nat → Int32) (i : Nat) : Prop := (W i = nI 11 ∨ W i = nI 12 → 2 ≤ dpW W i) ∧ (W i = nI 13 → 1 ≤ dpW W i) ∧ dpW W (i + 1) ≤ 20
theorem dpW_cg {W W' : Nat → Int32} {k : Nat} (h : ∀ i, i < k → W' i = W i) : dpW W' k = dpW W k := by
  induction k with
  | zero => rfl
  | succ k ih =>
    show dpS (W' k) (dpW W' k) = dpS (W k) (dpW W k)
    rw [h k (by omega), ih (fun i hi => h i (by omega))]
theorem okW_cg {W W' : Nat → Int32} {k i : Nat} (h : ∀ i, i < k → W' i = W i) (hi : i < k) (ho : okW W i) : okW W' i := by
  unfold okW
  rw [h i hi, dpW_cg (k := i) (fun j hj => h j (by omega)), dpW_cg (k := i + 1) (fun j hj => h j (by omega))]
  exact ho
/-- what the reference still holds, the topmost first: what the class has written already -/
def PQ (N M : kD) (k : Nat) : List Nat → Nat → Prop
  | [], _ => True
  | x :: Q, er => (20 ≤ x ∧ x ≤ 22) ∧ M.1 39 (k + Q.length) = nI x ∧ N.1 2 er = nI (uW x) ∧ N.1 3 er = nI 0 ∧ N.1 4 er = nI 0 ∧ PQ N M k Q (er + 1)
def SZ (nm np c e d k δ : Nat) (Q : List Nat) (N M : kD) : Prop :=
  (N.1 0 0 = nI c ∧ M.1 0 41 = nI c ∧ N.1 0 1 = nI e) ∧ (c ≤ 20 ∧ e ≤ 2 * c ∧ k + Q.length ≤ 2 * c ∧ δ ≤ c) ∧
  (∃ er, er + Q.length = e ∧ M.1 0 40 = nI er ∧ (∀ i, i < er → SE nm np (N.1 2 i) (N.1 3 i) (N.1 4 i) (M.1 8 (3 * i)) (M.1 8 (3 * i + 1)) (M.1 8 (3 * i + 2))) ∧ PQ N M k Q er) ∧
  (M.1 0 42 = nI (k + Q.length) ∧ M.1 0 43 = nI (d + Q.count 20)) ∧ (dpW (N.1 2) e = δ ∧ ∀ i, i < e → okW (N.1 2) i)
/-- frames -/
def MXp (M M' : kD) : Prop := (∀ k, k ≠ 40 → k ≠ 42 → k ≠ 43 → M'.1 0 k = M.1 0 k) ∧ (∀ b, b ≠ 0 → b ≠ 8 → M'.1 b = M.1 b) ∧ M'.2 = M.2
theorem MXp_r (M : kD) : MXp M M := ⟨fun _ _ _ _ => rfl, fun _ _ _ => rfl, rfl⟩
theorem MXp_t {A B C : kD} (h : MXp A B) (g : MXp B C) : MXp A C := ⟨fun k k1 k2 k3 => (g.1 k k1 k2 k3).trans (h.1 k k1 k2 k3), fun b h1 h2 => (g.2.1 b h1 h2).trans (h.2.1 b h1 h2), g.2.2.trans h.2.2⟩
def MXs (M M' : kD) : Prop := (∀ k, k ≠ 4 → k ≠ 11 → k ≠ 12 → k ≠ 13 → k ≠ 14 → k ≠ 15 → k ≠ 16 → k ≠ 18 → k ≠ 40 → k ≠ 41 → k ≠ 42 → k ≠ 43 → k ≠ 44 → M'.1 0 k = M.1 0 k) ∧ (∀ b, b ≠ 0 → b ≠ 8 → b ≠ 39 → M'.1 b = M.1 b) ∧ (∀ b, b ≠ 0 → M'.2 b = M.2 b) ∧ (∀ k, k ≠ 17 → M'.2 0 k = M.2 0 k)
theorem MXs_r (M : kD) : MXs M M := ⟨fun _ _ _ _ _ _ _ _ _ _ _ _ _ _ => rfl, fun _ _ _ _ => rfl, fun _ _ => rfl, fun _ _ => rfl⟩
theorem MXs_t {A B C : kD} (h : MXs A B) (g : MXs B C) : MXs A C := ⟨fun k k1 k2 k3 k4 k5 k6 k7 k8 k9 k10 k11 k12 k13 => (g.1 k k1 k2 k3 k4 k5 k6 k7 k8 k9 k10 k11 k12 k13).trans (h.1 k k1 k2 k3 k4 k5 k6 k7 k8 k9 k10 k11 k12 k13), fun b h1 h2 h3 => (g.2.1 b h1 h2 h3).trans (h.2.1 b h1 h2 h3), fun b hb => (g.2.2.1 b hb).trans (h.2.2.1 b hb), fun k hk => (g.2.2.2 k hk).trans (h.2.2.2 k hk)⟩
theorem MXs_r' {M M' : kD} (h : MXr M M') : MXs M M' := ⟨fun k k1 k2 k3 k4 k5 k6 k7 k8 _ _ _ _ _ => h.1 k k1 k2 k3 k4 k5 k6 k7 k8, fun b hb _ _ => h.2.1 b hb, h.2.2.1, h.2.2.2⟩
theorem MXs_p {M M' : kD} (h : MXp M M') : MXs M M' := ⟨fun k _ _ _ _ _ _ _ _ k1 _ k2 k3 _ => h.1 k k1 k2 k3, fun b hb h8 _ => h.2.1 b hb h8, fun b _ => by rw [h.2.2], fun k _ => by rw [h.2.2]⟩
theorem MXs_0 (M : kD) (k : Nat) (v : Int32) (hk : 40 ≤ k ∧ k ≤ 44) : MXs M (kI M 0 k v) := by
  refine ⟨fun j _ _ _ _ _ _ _ _ j1 j2 j3 j4 j5 => up_ne (by omega), fun b hb _ _ => if_neg hb, fun _ _ => rfl, fun _ _ => rfl⟩
theorem MXs_39 (M : kD) (k : Nat) (v : Int32) : MXs M (kI M 39 k v) := by
  refine ⟨fun j _ _ _ _ _ _ _ _ _ _ _ _ _ => rfl, fun b _ _ h39 => if_neg h39, fun _ _ => rfl, fun _ _ => rfl⟩
theorem MXs_8 (M : kD) (k : Nat) (v : Int32) : MXs M (kI M 8 k v) := by
  refine ⟨fun j _ _ _ _ _ _ _ _ _ _ _ _ _ => rfl, fun b _ h8 _ => if_neg h8, fun _ _ => rfl, fun _ _ => rfl⟩
theorem TK_s {n L : Nat} {T : Nat → Int32} {l : List Nat} {k v p a : Nat} {R M M' : kD} (h : TK n L T l k v p a R M) (h0 : ∀ k, k < 40 → M'.1 0 k = M.1 0 k) (h1 : M'.1 1 = M.1 1) (h2 : M'.2 = M.2) : TK n L T l k v p a R M' := by
  obtain ⟨b0, b1, b2, b3, b4, b5, b6, b7, b8, b9, bK⟩ := h
  refine ⟨b0, b1, b2, (h0 5 (by omega)).trans b3, RZ_f b4 (h0 3 (by omega)) h1, b5, b6, (h0 12 (by omega)).trans b7, fun hk => ?_, b9, ?_⟩
  · rw [h0 4 (by omega)]; exact b8 hk
  · rw [h0 11 (by omega), h0 14 (by omega), h2]; exact bK
theorem TK_p {n L : Nat} {T : Nat → Int32} {l : List Nat} {k v p a : Nat} {R M M' : kD} (h : TK n L T l k v p a R M) (g : MXp M M') : TK n L T l k v p a R M' :=
  TK_s h (fun k hk => g.1 k (by omega) (by omega) (by omega)) (g.2.1 1 (by omega) (by omega)) g.2.2
def SH (nm np : Nat) (O M : kD) : Prop := RLo nm np O (M.1 6) (M.2 9) ∧ WT M
theorem SH_s {nm np : Nat} {O M M' : kD} (h : SH nm np O M) (g : MXs M M') : SH nm np O M' := by
  refine ⟨?_, ?_⟩
  · rw [g.2.1 6 (by omega) (by omega) (by omega), g.2.2.1 9 (by omega)]; exact h.1
  · unfold WT
    rw [g.2.2.1 10 (by omega)]; exact h.2
/-- the class writes a word -/
def kpN (N : kD) (e : Nat) (w : Nat) (s v : Int32) : kD := kI (kI (kI (kI N 2 e (nI w)) 3 e s) 4 e v) 0 1 (nI (e + 1))
theorem q_kpN {N : kD} {e w : Nat} {s v : Int32} (h : N.1 0 1 = nI e) (he : e < 40) (hw : w < 22) : f_X8_keepWord (nI w) s v N = some (nI 1, kpN N e w s v) := by
  unfold f_X8_keepWord kpN
  simp (disch := omega) only [↓q_m1, q_lit, ↓q_bd, h, q_le, show ¬ 40 ≤ e by omega, ↓reduceIte, q_lt, Nat.not_lt_zero, false_or, q_cl, show ¬ 22 ≤ w by omega, q_kI, Nat.reduceEqDiff, nI_add]
theorem kpN_2 (N : kD) (e w : Nat) (s v : Int32) : (kpN N e w s v).1 2 = upd (N.1 2) e (nI w) := rfl
theorem kpN_3 (N : kD) (e w : Nat) (s v : Int32) : (kpN N e w s v).1 3 = upd (N.1 3) e s := rfl
theorem kpN_4 (N : kD) (e w : Nat) (s v : Int32) : (kpN N e w s v).1 4 = upd (N.1 4) e v := rfl
/-- the reference writes a code -/
def cdM (M : kD) (er : Nat) (x s v : Int32) : kD := kI (kI (kI (kI M 8 (3 * er) x) 8 (3 * er + 1) s) 8 (3 * er + 2) v) 0 40 (nI (er + 1))
theorem q_cdM {M : kD} {er : Nat} {x s v : Int32} (h : M.1 0 40 = nI er) (he : er < 45) : f_X12_code x s v M = some (cdM M er x s v) := by
  unfold f_X12_code cdM
  simp (disch := omega) only [↓q_m1, q_lit, ↓q_bd, q_kI, Nat.reduceEqDiff, ↓reduceIte, h, pk_mul, nI_add, q_lt, Nat.not_lt_zero, false_or, q_cl, show ¬ 135 ≤ 3 * er by omega, show ¬ 135 ≤ 3 * er + 1 by omega, show ¬ 135 ≤ 3 * er + 2 by omega]
theorem cdM_8 (M : kD) (er : Nat) (x s v : Int32) : (cdM M er x s v).1 8 = upd (upd (upd (M.1 8) (3 * er) x) (3 * er + 1) s) (3 * er + 2) v := rfl
theorem cdM_p (M : kD) (er : Nat) (x s v : Int32) : MXp M (cdM M er x s v) := by
  refine ⟨fun k k1 _ _ => ?_, fun b hb h8 => ?_, rfl⟩
  · show upd (M.1 0) 40 _ k = _
    exact up_ne k1
  · show (if b = 0 then _ else if b = 8 then _ else if b = 8 then _ else if b = 8 then _ else M.1 b) = _
    rw [if_neg hb, if_neg h8, if_neg h8, if_neg h8]
theorem PQ_M {N M M' : kD} {k : Nat} (h : M'.1 39 = M.1 39) : ∀ (Q : List Nat) (er : Nat), PQ N M k Q er → PQ N M' k Q er
  | [], _, _ => trivial
  | x :: Q, er, hq => by
    obtain ⟨h1, h2, h3, h4, h5, h6⟩ := hq
    refine ⟨h1, ?_, h3, h4, h5, PQ_M h Q (er + 1) h6⟩
    rw [h]; exact h2
theorem SZ_M {nm np c e d k δ : Nat} {Q : List Nat} {N M M' : kD} (h : SZ nm np c e d k δ Q N M) (h0 : ∀ k, 40 ≤ k → k ≤ 43 → M'.1 0 k = M.1 0 k) (h8 : M'.1 8 = M.1 8) (h39 : M'.1 39 = M.1 39) : SZ nm np c e d k δ Q N M' := by
  obtain ⟨⟨n0, m41, n1⟩, hb, ⟨er, her, m40, hse, hpq⟩, ⟨m42, m43⟩, hd⟩ := h
  refine ⟨⟨n0, (h0 41 (by omega) (by omega)).trans m41, n1⟩, hb, ⟨er, her, (h0 40 (by omega) (by omega)).trans m40, ?_, PQ_M h39 Q er hpq⟩, ⟨(h0 42 (by omega) (by omega)).trans m42, (h0 43 (by omega) (by omega)).trans m43⟩, hd⟩
  rw [h8]; exact hse
theorem SZ_r {nm np c e d k δ : Nat} {Q : List Nat} {N M M' : kD} (h : SZ nm np c e d k δ Q N M) (g : MXr M M') : SZ nm np c e d k δ Q N M' :=
  SZ_M h (fun k _ _ => g.1 k (by omega) (by omega) (by omega) (by omega) (by omega) (by omega) (by omega) (by omega)) (g.2.1 8 (by omega)) (g.2.1 39 (by omega))
/-- the topmost mark becomes a code -/
theorem SZ_pop {nm np c e d k δ x : Nat} {Q : List Nat} {N M M0 : kD} (h : SZ nm np c e d k δ (x :: Q) N M) (h40 : M0.1 0 40 = M.1 0 40) (h41 : M0.1 0 41 = M.1 0 41) (h42 : M0.1 0 42 = nI (k + Q.length)) (h43 : M0.1 0 43 = nI (d + Q.count 20)) (hr : ∀ b, b ≠ 0 → M0.1 b = M.1 b) :
    ∃ er, er < 45 ∧ M0.1 0 40 = nI er ∧ SZ nm np c e d k δ Q N (cdM M0 er (nI x) (nI 0) (nI 0)) := by
  obtain ⟨⟨n0, m41, n1⟩, ⟨b1, b2, b3, b4⟩, ⟨er, her, m40, hse, hx, ht, p2, p3, p4, hpq⟩, ⟨m42, m43⟩, hd⟩ := h
  rw [List.length_cons] at her b3
  refine ⟨er, by omega, h40.trans m40, ⟨n0, ?_, n1⟩, ⟨b1, b2, by omega, b4⟩, ⟨er + 1, by omega, rfl, fun i hi => ?_, PQ_M (M := M) ?_ Q (er + 1) hpq⟩, ⟨h42, h43⟩, hd⟩
  · exact h41.trans m41
  · rw [cdM_8, hr 8 (by omega)]
    by_cases hie : i = er
    · subst hie
      rw [up_ne (show ¬ 3 * i = 3 * i + 2 by omega), up_ne (show ¬ 3 * i = 3 * i + 1 by omega), up_eq, up_ne (show ¬ 3 * i + 1 = 3 * i + 2 by omega), up_eq, up_eq, p2, p3, p4]
      refine ⟨uW x, ?_, ?_, rfl, ?_, rfl, rfl, ?_, ?_, ?_⟩
      · unfold uW; split <;> (try split) <;> omega
      · unfold uW; split <;> (try split) <;> omega
      · have : x = 20 ∨ x = 21 ∨ x = 22 := by omega
        rcases this with rfl | rfl | rfl <;> rfl
      · intro h9; unfold uW at h9; split at h9 <;> (try split at h9) <;> omega
      · intro h9; unfold uW at h9; split at h9 <;> (try split at h9) <;> omega
      · intro h9; unfold uW at h9; split at h9 <;> (try split at h9) <;> omega
    · rw [up_ne (show ¬ 3 * i = 3 * er + 2 by omega), up_ne (show ¬ 3 * i = 3 * er + 1 by omega), up_ne (show ¬ 3 * i = 3 * er by omega), up_ne (show ¬ 3 * i + 1 = 3 * er + 2 by omega), up_ne (show ¬ 3 * i + 1 = 3 * er + 1 by omega), up_ne (show ¬ 3 * i + 1 = 3 * er by omega), up_ne (show ¬ 3 * i + 2 = 3 * er + 2 by omega), up_ne (show ¬ 3 * i + 2 = 3 * er + 1 by omega), up_ne (show ¬ 3 * i + 2 = 3 * er by omega)]
      exact hse i (by omega)
  · exact hr 39 (by omega)
theorem PQ_snoc {N N' M : kD} {k x : Nat} (hx : 20 ≤ x ∧ x ≤ 22) (ht : M.1 39 k = nI x) : ∀ (Q : List Nat) (er : Nat), (∀ b i, b = 2 ∨ b = 3 ∨ b = 4 → i < er + Q.length → N'.1 b i = N.1 b i) → N'.1 2 (er + Q.length) = nI (uW x) → N'.1 3 (er + Q.length) = nI 0 → N'.1 4 (er + Q.length) = nI 0 → PQ N M (k + 1) Q er → PQ N' M k (Q ++ [x]) er
  | [], er, _, h2, h3, h4, _ => ⟨hx, ht, h2, h3, h4, trivial⟩
  | y :: Q, er, hf, h2, h3, h4, hq => by
    obtain ⟨g1, g2, g3, g4, g5, g6⟩ := hq
    rw [List.length_cons] at hf h2 h3 h4
    refine ⟨g1, ?_, ?_, ?_, ?_, PQ_snoc hx ht Q (er + 1) (fun b i hb hi => hf b i hb (by omega)) ?_ ?_ ?_ g6⟩
    · show M.1 39 (k + (Q ++ [x]).length) = nI y
      rw [List.length_append, List.length_singleton, show k + (Q.length + 1) = k + 1 + Q.length by omega]; exact g2
    · rw [hf 2 er (Or.inl rfl) (by omega)]; exact g3
    · rw [hf 3 er (Or.inr (Or.inl rfl)) (by omega)]; exact g4
    · rw [hf 4 er (Or.inr (Or.inr rfl)) (by omega)]; exact g5
    · rw [show er + 1 + Q.length = er + (Q.length + 1) by omega]; exact h2
    · rw [show er + 1 + Q.length = er + (Q.length + 1) by omega]; exact h3
    · rw [show er + 1 + Q.length = er + (Q.length + 1) by omega]; exact h4
/-- the class writes what the reference holds lowest -/
theorem SZ_snoc {nm np c e d d' k δ δ' x : Nat} {Q : List Nat} {N M : kD} (h : SZ nm np c e d' (k + 1) δ Q N M) (hx : 20 ≤ x ∧ x ≤ 22) (ht : M.1 39 k = nI x) (hd : d' = d + if x = 20 then 1 else 0) (hδ : (x = 20 → 1 ≤ δ ∧ δ' = δ) ∧ (x ≠ 20 → 2 ≤ δ ∧ δ' + 1 = δ)) (he : e + 1 ≤ 2 * c) :
    SZ nm np c (e + 1) d k δ' (Q ++ [x]) (kpN N e (uW x) (nI 0) (nI 0)) M := by
  obtain ⟨⟨n0, m41, n1⟩, ⟨b1, b2, b3, b4⟩, ⟨er, her, m40, hse, hpq⟩, ⟨m42, m43⟩, ⟨hd1, hd2⟩⟩ := h
  have hx3 : x = 20 ∨ x = 21 ∨ x = 22 := by omega
  have hlen : (Q ++ [x]).length = Q.length + 1 := by rw [List.length_append, List.length_singleton]
  have hf : ∀ b i, b = 2 ∨ b = 3 ∨ b = 4 → i < e → (kpN N e (uW x) (nI 0) (nI 0)).1 b i = N.1 b i := by
    intro b i hb hi
    rcases hb with rfl | rfl | rfl
    · rw [kpN_2, up_ne (by omega)]
    · rw [kpN_3, up_ne (by omega)]
    · rw [kpN_4, up_ne (by omega)]
  have hcg : ∀ i, i < e → (kpN N e (uW x) (nI 0) (nI 0)).1 2 i = N.1 2 i := fun i hi => hf 2 i (Or.inl rfl) hi
  have hdp : dpW ((kpN N e (uW x) (nI 0) (nI 0)).1 2) (e + 1) = δ' := by
    show dpS ((kpN N e (uW x) (nI 0) (nI 0)).1 2 e) (dpW _ e) = δ'
    rw [dpW_cg hcg, hd1, kpN_2, up_eq]
    rcases hx3 with rfl | rfl | rfl
    · exact ((hδ.1 rfl).2).symm
    · have := (hδ.2 (by omega)).2
      show δ - 1 = δ'
      omega
    · have := (hδ.2 (by omega)).2
      show δ - 1 = δ'
      omega
  refine ⟨⟨n0, m41, rfl⟩, ⟨b1, he, by omega, ?_⟩, ⟨er, by omega, m40, fun i hi => ?_, ?_⟩, ⟨?_, ?_⟩, hdp, fun i hi => ?_⟩
  · rcases hx3 with rfl | rfl | rfl
    · have := hδ.1 rfl; omega
    · have := hδ.2 (by omega); omega
    · have := hδ.2 (by omega); omega
  · rw [hf 2 i (Or.inl rfl) (by omega), hf 3 i (Or.inr (Or.inl rfl)) (by omega), hf 4 i (Or.inr (Or.inr rfl)) (by omega)]
    exact hse i hi
  · refine PQ_snoc hx ht Q er (fun b i hb hi => hf b i hb (by omega)) ?_ ?_ ?_ hpq
    · rw [her, kpN_2, up_eq]
    · rw [her, kpN_3, up_eq]
    · rw [her, kpN_4, up_eq]
  · rw [m42, hlen]
    exact congrArg nI (by omega)
  · rw [m43, List.count_append, hd]
    rcases hx3 with rfl | rfl | rfl
    · exact congrArg nI (by show d + 1 + _ = d + (_ + 1); omega)
    · exact congrArg nI (by show d + 0 + _ = d + (_ + 0); omega)
    · exact congrArg nI (by show d + 0 + _ = d + (_ + 0); omega)
  · by_cases hie : i = e
    · subst hie
      refine ⟨fun h9 => ?_, fun h9 => ?_, ?_⟩
      · rw [dpW_cg hcg, hd1]
        rw [kpN_2, up_eq] at h9
        rcases hx3 with rfl | rfl | rfl
        · exact absurd h9 (by decide)
        · exact (hδ.2 (by omega)).1
        · exact (hδ.2 (by omega)).1
      · rw [dpW_cg hcg, hd1]
        rw [kpN_2, up_eq] at h9
        rcases hx3 with rfl | rfl | rfl
        · exact (hδ.1 rfl).1
        · exact absurd h9 (by decide)
        · exact absurd h9 (by decide)
      · rw [hdp]
        rcases hx3 with rfl | rfl | rfl
        · have := hδ.1 rfl; omega
        · have := hδ.2 (by omega); omega
        · have := hδ.2 (by omega); omega
    · exact okW_cg (k := e) hcg (by omega) (hd2 i (by omega))
/-- both write a leaf -/
theorem SZ_leaf {nm np c e d k δ w : Nat} {s v : Int32} {N M : kD} (h : SZ nm np c e d k δ [] N M) (hw : 14 ≤ w ∧ w ≤ 21) (hse : SE nm np (nI w) s v (nI (cW w)) s v) (he : e + 1 ≤ 2 * c) (hδ : δ + 1 ≤ c) :
    M.1 0 40 = nI e ∧ SZ nm np c (e + 1) d k (δ + 1) [] (kpN N e w s v) (cdM M e (nI (cW w)) s v) := by
  obtain ⟨⟨n0, m41, n1⟩, ⟨b1, b2, b3, b4⟩, ⟨er, her, m40, hses, hpq⟩, ⟨m42, m43⟩, ⟨hd1, hd2⟩⟩ := h
  have her : er = e := her
  subst her
  have hcg : ∀ i, i < er → (kpN N er w s v).1 2 i = N.1 2 i := fun i hi => by rw [kpN_2, up_ne (by omega)]
  have hdp : dpW ((kpN N er w s v).1 2) (er + 1) = δ + 1 := by
    show dpS ((kpN N er w s v).1 2 er) (dpW _ er) = δ + 1
    rw [dpW_cg hcg, hd1, kpN_2, up_eq]
    unfold dpS
    simp (disch := omega) only [q_eq, show ¬ w = 11 by omega, show ¬ w = 12 by omega, show ¬ w = 13 by omega, false_or, ↓reduceIte]
  refine ⟨m40, ⟨n0, m41, rfl⟩, ⟨b1, he, b3, hδ⟩, ⟨er + 1, rfl, rfl, fun i hi => ?_, trivial⟩, ⟨m42, m43⟩, hdp, fun i hi => ?_⟩
  · rw [cdM_8]
    by_cases hie : i = er
    · subst hie
      rw [up_ne (show ¬ 3 * i = 3 * i + 2 by omega), up_ne (show ¬ 3 * i = 3 * i + 1 by omega), up_eq, up_ne (show ¬ 3 * i + 1 = 3 * i + 2 by omega), up_eq, up_eq, kpN_2, up_eq, kpN_3, up_eq, kpN_4, up_eq]
      exact hse
    · rw [up_ne (show ¬ 3 * i = 3 * er + 2 by omega), up_ne (show ¬ 3 * i = 3 * er + 1 by omega), up_ne (show ¬ 3 * i = 3 * er by omega), up_ne (show ¬ 3 * i + 1 = 3 * er + 2 by omega), up_ne (show ¬ 3 * i + 1 = 3 * er + 1 by omega), up_ne (show ¬ 3 * i + 1 = 3 * er by omega), up_ne (show ¬ 3 * i + 2 = 3 * er + 2 by omega), up_ne (show ¬ 3 * i + 2 = 3 * er + 1 by omega), up_ne (show ¬ 3 * i + 2 = 3 * er by omega), kpN_2, up_ne hie, kpN_3, up_ne hie, kpN_4, up_ne hie]
      exact hses i (by omega)
  · by_cases hie : i = er
    · subst hie
      refine ⟨fun h9 => ?_, fun h9 => ?_, ?_⟩
      · rw [kpN_2, up_eq, q_eq (by omega) (by omega), q_eq (by omega) (by omega)] at h9
        omega
      · rw [kpN_2, up_eq, q_eq (by omega) (by omega)] at h9
        omega
      · rw [hdp]; omega
    · exact okW_cg (k := er) hcg (by omega) (hd2 i (by omega))

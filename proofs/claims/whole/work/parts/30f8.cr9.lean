-- equality: what the class's rows hold, so far
def rwP (c cnt : Nat) (Q : Nat → (Nat → Int) → Prop) (n : Nat) (v : Nat → Int64) : Prop := n = c * cnt ∧ ∀ i, i < cnt → Q i (fun j => (v (c * i + j)).toInt)
/-- an own function, table, memory, variable -/
def epO (cA : Nat → Int32) (b κ p : Nat) (w : Nat → Int) : Prop :=
  (κ = 0 → w 0 + b = p ∧ w 1 = cV cA p) ∧ (κ = 1 → epL cA b p (p + 1) w) ∧ (κ = 2 → epL cA b p p w) ∧ (κ = 3 → ep5 cA b p w)
def e1_ (cA : Nat → Int32) (b ct : Nat) (P : Nat → Nat) (n : Nat) (v : Nat → Int64) : Prop := rwP 7 ct (fun i w => ep1 cA b (kcn cA P (ub cA (qN cA (qN cA (P i)))).toInt.toNat i) (P i) w) n v
def eI_ (cA : Nat → Int32) (b κ ct2 : Nat) (P2 : Nat → Nat) (ct : Nat) (P : Nat → Nat) (n : Nat) (v : Nat → Int64) : Prop :=
  n = imL κ * (kcn cA P2 κ ct2 + ct) ∧ (∀ k, k < ct2 → (ub cA (qN cA (qN cA (P2 k)))).toInt = κ → epI cA b κ (P2 k) (fun j => (v (imL κ * kcn cA P2 κ k + j)).toInt)) ∧ ∀ k, k < ct → epO cA b κ (P k) (fun j => (v (imL κ * (kcn cA P2 κ ct2 + k) + j)).toInt)
def e7_ (cA ν : Nat → Int32) (b a ct : Nat) (P : Nat → Nat) (n n8 : Nat) (v v8 : Nat → Int64) : Prop := n = 5 * ct ∧ ∀ i, i < ct → ∃ E f : Nat, eW cA ν b a E (cE cA (P i)) ∧ (v (5 * i)).toInt + b = P i ∧ (v (5 * i + 1)).toInt = cV cA (P i) ∧ (v (5 * i + 2)).toInt + b = cE cA (P i) ∧ (v (5 * i + 3)).toInt = f ∧ (v (5 * i + 4)).toInt = cV cA E ∧ 2 * f + 2 * cV cA E ≤ n8 ∧ lst8 cA b (2 * f) (cE cA E) (cV cA E) v8
def e9_ (cA ν : Nat → Int32) (b a ct : Nat) (P : Nat → Nat) (n n10 : Nat) (v v10 : Nat → Int64) : Prop := n = 5 * ct ∧ ∀ i, i < ct → ∃ f : Nat, eW cA ν b a (cE cA (P i) + cV cA (P i)) (lgE cA (cV cA (cE cA (P i))) (cE cA (cE cA (P i)))) ∧ ep9 cA b f (P i) (fun j => (v (5 * i + j)).toInt) ∧ 2 * f + 2 * cV cA (cE cA (P i)) ≤ n10 ∧ grp10 cA (2 * f) (cE cA (cE cA (P i))) (cV cA (cE cA (P i))) v10
def e11_ (cA ν : Nat → Int32) (b a ct : Nat) (P : Nat → Nat) (n : Nat) (v : Nat → Int64) : Prop := n = 5 * ct ∧ ∀ i, i < ct → ∃ E, eW cA ν b a E (cE cA (P i)) ∧ (v (5 * i)).toInt + b = P i ∧ (v (5 * i + 1)).toInt = cV cA (P i) ∧ (v (5 * i + 2)).toInt + b = cE cA (P i) ∧ (v (5 * i + 3)).toInt + b = cE cA E ∧ (v (5 * i + 4)).toInt = cV cA E
def e8_ (cA : Nat → Int32) (b ct : Nat) (P : Nat → Nat) (s sa : Int32) : Prop := (ct = 0 → s = -1 ∧ sa = -1) ∧ (0 < ct → (0 ≤ sa.toInt ∧ sa.toInt + b = P 0) ∧ s.toBitVec.toNat = cV cA (P 0))
/-- the class's rows hold what is written at the places S -/
def eR (cA ν : Nat → Int32) (b a : Nat) (S : Sm) (n : Nat → Nat) (vs : Nat → Nat → Int64) (iv : Nat → Int32) (s sa : Int32) : Prop :=
  rwP 5 (S.1 1) (fun i w => ep0 cA b (S.2 1 i) w) (n 0) (vs 0) ∧ e1_ cA b (S.1 2) (S.2 2) (n 1) (vs 1) ∧ (∀ κ, κ < 4 → eI_ cA b κ (S.1 2) (S.2 2) (S.1 (3 + κ)) (S.2 (3 + κ)) (n (2 + κ)) (vs (2 + κ))) ∧ (∀ κ, κ < 4 → (iv κ).toInt = kcn cA (S.2 2) κ (S.1 2)) ∧
  (∀ k, k < S.1 6 → ∃ E, eW cA ν b a E (S.2 6 k + 2)) ∧ rwP 5 (S.1 7) (fun i w => ep6 cA b (S.2 7 i) w) (n 6) (vs 6) ∧ e7_ cA ν b a (S.1 9) (S.2 9) (n 7) (n 8) (vs 7) (vs 8) ∧ e9_ cA ν b a (S.1 10) (S.2 10) (n 9) (n 10) (vs 9) (vs 10) ∧ e11_ cA ν b a (S.1 11) (S.2 11) (n 11) (vs 11) ∧ e8_ cA b (S.1 8) (S.2 8) s sa
section CR9
variable {cA ν ν' : Nat → Int32} {b a a' p k c cnt ct ct2 κ κ0 E : Nat} {S : Sm} {n n' n1 : Nat → Nat} {vs vs' vs1 : Nat → Nat → Int64} {iv iv' : Nat → Int32} {s sa : Int32} {L L1 L2 : List Int64} {P P2 : Nat → Nat} {Q Q' : Nat → (Nat → Int) → Prop}
theorem rwP.app (h : rwP c cnt Q (n k) (vs k)) (hA : xr_A k n vs n' vs' L) (hL : L.length = c) (hQ : ∀ i w, i < cnt → Q i w → Q' i w) (hc : ∀ i w w', (∀ j, j < c → w j = w' j) → Q' i w → Q' i w') (hn : Q' cnt (fun j => (L.getD j 0).toInt)) : rwP c (cnt + 1) Q' (n' k) (vs' k) := by
  obtain ⟨h1, h2⟩ := h
  refine ⟨by rw [hA.1, h1, hL]; exact (Nat.mul_succ c cnt).symm, fun i hi => ?_⟩
  rcases Nat.lt_or_ge i cnt with h9 | h9
  · refine hc i _ _ (fun j hj => ?_) (hQ i _ h9 (h2 i h9))
    have : c * i + c ≤ c * cnt := by
      have := Nat.mul_le_mul_left c (show i + 1 ≤ cnt by omega)
      rw [Nat.mul_succ] at this
      exact this
    rw [hA.2.2.1 _ (by omega)]
  · have ei : i = cnt := by omega
    subst ei
    refine hc i _ _ (fun j hj => ?_) hn
    rw [← hA.2.2.2 j (by omega), h1]
theorem rwP.cg (h : rwP c cnt Q (n k) (vs k)) (e1 : n' k = n k) (e2 : vs' k = vs k) (hQ : ∀ i w, i < cnt → Q i w → Q' i w) : rwP c cnt Q' (n' k) (vs' k) := by
  rw [e1, e2]
  exact ⟨h.1, fun i hi => hQ i _ hi (h.2 i hi)⟩
theorem ep0_c (w w' : Nat → Int) (h : ∀ j, j < 5 → w j = w' j) (h1 : ep0 cA b p w) : ep0 cA b p w' := by
  unfold ep0 at *
  rw [← h 0 (by omega), ← h 1 (by omega), ← h 2 (by omega), ← h 3 (by omega), ← h 4 (by omega)]
  exact h1
theorem ep1_c {x : Int} (w w' : Nat → Int) (h : ∀ j, j < 7 → w j = w' j) (h1 : ep1 cA b x p w) : ep1 cA b x p w' := by
  unfold ep1 at *
  rw [← h 0 (by omega), ← h 1 (by omega), ← h 2 (by omega), ← h 3 (by omega), ← h 4 (by omega), ← h 5 (by omega), ← h 6 (by omega)]
  exact h1
theorem ep6_c (w w' : Nat → Int) (h : ∀ j, j < 5 → w j = w' j) (h1 : ep6 cA b p w) : ep6 cA b p w' := by
  unfold ep6 at *
  rw [← h 0 (by omega), ← h 1 (by omega), ← h 2 (by omega), ← h 3 (by omega), ← h 4 (by omega)]
  exact h1
theorem ep9_c {f : Nat} (w w' : Nat → Int) (h : ∀ j, j < 5 → w j = w' j) (h1 : ep9 cA b f p w) : ep9 cA b f p w' := by
  unfold ep9 at *
  rw [← h 0 (by omega), ← h 1 (by omega), ← h 2 (by omega), ← h 3 (by omega), ← h 4 (by omega)]
  exact h1
theorem epL_c {lp : Nat} (w w' : Nat → Int) (h : ∀ j, j < 3 → w j = w' j) (h1 : epL cA b p lp w) : epL cA b p lp w' := by
  unfold epL at *
  rw [← h 0 (by omega), ← h 1 (by omega), ← h 2 (by omega)]
  exact h1
theorem imL_v (hκ : κ < 4) : imL κ = 2 ∧ κ = 0 ∨ imL κ = 3 ∧ (κ = 1 ∨ κ = 2) ∨ imL κ = 4 ∧ κ = 3 := by
  have : κ = 0 ∨ κ = 1 ∨ κ = 2 ∨ κ = 3 := by omega
  rcases this with e | e | e | e <;> subst e <;> simp [imL]
theorem epI_c (hκ : κ < 4) (w w' : Nat → Int) (h : ∀ j, j < imL κ → w j = w' j) (h1 : epI cA b κ p w) : epI cA b κ p w' := by
  obtain ⟨a0, a1, a2, a3⟩ := h1
  have hv := imL_v hκ
  refine ⟨fun e => ?_, fun e => epL_c w w' (fun j hj => h j (by omega)) (a1 e), fun e => epL_c w w' (fun j hj => h j (by omega)) (a2 e), fun e => ?_⟩
  · rw [← h 0 (by omega), ← h 1 (by omega)]
    exact a0 e
  · rw [← h 0 (by omega), ← h 1 (by omega), ← h 2 (by omega), ← h 3 (by omega)]
    exact a3 e
theorem epO_c (hκ : κ < 4) (w w' : Nat → Int) (h : ∀ j, j < imL κ → w j = w' j) (h1 : epO cA b κ p w) : epO cA b κ p w' := by
  obtain ⟨a0, a1, a2, a3⟩ := h1
  have hv := imL_v hκ
  refine ⟨fun e => ?_, fun e => epL_c w w' (fun j hj => h j (by omega)) (a1 e), fun e => epL_c w w' (fun j hj => h j (by omega)) (a2 e), fun e => ?_⟩
  · rw [← h 0 (by omega), ← h 1 (by omega)]
    exact a0 e
  · have := a3 e
    unfold ep5 at *
    rw [← h 0 (by omega), ← h 1 (by omega), ← h 2 (by omega), ← h 3 (by omega)]
    exact this
theorem kcn_cgx : ∀ {m : Nat}, (∀ i, i < m → P i = P2 i) → kcn cA P κ m = kcn cA P2 κ m
  | 0, _ => rfl
  | m + 1, h => by
    unfold kcn
    rw [kcn_cgx (fun i hi => h i (by omega)), h m (by omega)]
theorem kcn_mox : ∀ {m k : Nat}, k < m → (ub cA (qN cA (qN cA (P k)))).toInt = κ → kcn cA P κ k + 1 ≤ kcn cA P κ m
  | 0, k, h, _ => by omega
  | m + 1, k, h, hk => by
    show kcn cA P κ k + 1 ≤ kcn cA P κ m + (if (ub cA (qN cA (qN cA (P m)))).toInt = κ then 1 else 0)
    rcases Nat.lt_or_ge k m with h9 | h9
    · have := kcn_mox (m := m) h9 hk
      omega
    · have : k = m := by omega
      subst this
      rw [if_pos hk]
      omega
/-- an own entry more -/
theorem eI_.own (hκ : κ < 4) (h : eI_ cA b κ ct2 P2 ct P (n k) (vs k)) (hA : xr_A k n vs n' vs' L) (hL : L.length = imL κ) (hn : epO cA b κ p (fun j => (L.getD j 0).toInt)) : eI_ cA b κ ct2 P2 (ct + 1) (va_up P ct p) (n' k) (vs' k) := by
  obtain ⟨h1, h2, h3⟩ := h
  have hm : ∀ x y : Nat, x + 1 ≤ y → imL κ * x + imL κ ≤ imL κ * y := fun x y hxy => by
    have := Nat.mul_le_mul_left (imL κ) hxy
    rw [Nat.mul_succ] at this
    exact this
  refine ⟨by rw [hA.1, h1, hL, ← Nat.add_assoc, Nat.mul_succ], fun i hi hk => ?_, fun i hi => ?_⟩
  · refine epI_c hκ _ _ (fun j hj => ?_) (h2 i hi hk)
    have := kcn_mox hi hk
    have := hm _ _ (show kcn cA P2 κ i + 1 ≤ kcn cA P2 κ ct2 + ct by omega)
    rw [hA.2.2.1 _ (by omega)]
  · rcases Nat.lt_or_ge i ct with h9 | h9
    · rw [xh_up, if_neg (by omega)]
      refine epO_c hκ _ _ (fun j hj => ?_) (h3 i h9)
      have := hm _ _ (show kcn cA P2 κ ct2 + i + 1 ≤ kcn cA P2 κ ct2 + ct by omega)
      rw [hA.2.2.1 _ (by omega)]
    · have ei : i = ct := by omega
      subst ei
      rw [xh_up, if_pos rfl]
      refine epO_c hκ _ _ (fun j hj => ?_) hn
      rw [← hA.2.2.2 j (by omega), h1]
/-- an import more -/
theorem eI_.imp (hκ : κ < 4) (h : eI_ cA b κ ct2 P2 0 P (n k) (vs k)) (hk : (ub cA (qN cA (qN cA p))).toInt = κ) (hA : xr_A k n vs n' vs' L) (hL : L.length = imL κ) (hn : epI cA b κ p (fun j => (L.getD j 0).toInt)) : eI_ cA b κ (ct2 + 1) (va_up P2 ct2 p) 0 P (n' k) (vs' k) := by
  obtain ⟨h1, h2, -⟩ := h
  have hcg : ∀ m, m ≤ ct2 → kcn cA (va_up P2 ct2 p) κ m = kcn cA P2 κ m := fun m hm => kcn_cgx (fun i hi => by rw [xh_up, if_neg (by omega)])
  have hm : ∀ x y : Nat, x + 1 ≤ y → imL κ * x + imL κ ≤ imL κ * y := fun x y hxy => by
    have := Nat.mul_le_mul_left (imL κ) hxy
    rw [Nat.mul_succ] at this
    exact this
  have hlast : kcn cA (va_up P2 ct2 p) κ (ct2 + 1) = kcn cA P2 κ ct2 + 1 := by
    show kcn cA (va_up P2 ct2 p) κ ct2 + _ = _
    rw [hcg ct2 (Nat.le_refl _), xh_up, if_pos rfl, if_pos hk]
  refine ⟨by rw [hlast, hA.1, h1, hL]; rfl, fun i hi hki => ?_, fun i hi => by omega⟩
  rw [hcg i (by omega)]
  rcases Nat.lt_or_ge i ct2 with h9 | h9
  · rw [xh_up, if_neg (by omega)] at hki ⊢
    refine epI_c hκ _ _ (fun j hj => ?_) (h2 i h9 hki)
    have := kcn_mox h9 hki
    have := hm _ _ this
    rw [Nat.add_zero] at h1
    rw [hA.2.2.1 _ (by omega)]
  · have ei : i = ct2 := by omega
    subst ei
    rw [xh_up, if_pos rfl]
    refine epI_c hκ _ _ (fun j hj => ?_) hn
    rw [← hA.2.2.2 j (by omega), h1]
    rfl
theorem eI_.oth (h : eI_ cA b κ ct2 P2 0 P (n k) (vs k)) (hk : ¬ (ub cA (qN cA (qN cA p))).toInt = κ) (e1 : n' k = n k) (e2 : vs' k = vs k) : eI_ cA b κ (ct2 + 1) (va_up P2 ct2 p) 0 P (n' k) (vs' k) := by
  obtain ⟨h1, h2, -⟩ := h
  have hcg : ∀ m, m ≤ ct2 → kcn cA (va_up P2 ct2 p) κ m = kcn cA P2 κ m := fun m hm => kcn_cgx (fun i hi => by rw [xh_up, if_neg (by omega)])
  have hlast : kcn cA (va_up P2 ct2 p) κ (ct2 + 1) = kcn cA P2 κ ct2 := by
    show kcn cA (va_up P2 ct2 p) κ ct2 + _ = _
    rw [hcg ct2 (Nat.le_refl _), xh_up, if_pos rfl, if_neg hk]
    rfl
  rw [e1, e2]
  refine ⟨by rw [hlast]; exact h1, fun i hi hki => ?_, fun i hi => by omega⟩
  rw [hcg i (by omega)]
  rcases Nat.lt_or_ge i ct2 with h9 | h9
  · rw [xh_up, if_neg (by omega)] at hki ⊢
    exact h2 i h9 hki
  · have ei : i = ct2 := by omega
    subst ei
    rw [xh_up, if_pos rfl] at hki
    exact absurd hki hk
theorem wkC.cg : ∀ {m p d : Nat}, b ≤ p → wkC cA ν b E m p d → (∀ j, j < E - b → ν' j = ν j) → wkC cA ν' b E m p d
  | 0, p, d, _, h, _ => h
  | m + 1, p, d, hb, h, hc => by
    obtain ⟨h1, q, h2, h3, h4⟩ := h
    have hwb := rW_b h2
    refine ⟨h1, q, h2, fun h9 => ?_, h4.imp id (fun h8 => ⟨h8.1, h8.2.1, wkC.cg (by omega) h8.2.2 hc⟩)⟩
    have hn := h3 h9
    have hq : q ≤ E := by
      rcases h4 with h8 | h8
      · omega
      · omega
    exact hn.cg (by rw [show b + (p - b) + 1 = p + 1 by omega]; exact h2) h9 (fun k _ k2 => hc k (by omega))
theorem eW.mo {p : Nat} (h : eW cA ν b a E p) (ha : a ≤ a') (hν : ∀ j, j < a → ν' j = ν j) : eW cA ν' b a' E p := by
  obtain ⟨hb, h1, m, h2⟩ := h
  exact ⟨hb, by omega, m, h2.cg hb (fun j hj => hν j (by omega))⟩
theorem eR.mo (h : eR cA ν b a S n vs iv s sa) (ha : a ≤ a') (hν : ∀ j, j < a → ν' j = ν j) : eR cA ν' b a' S n vs iv s sa := by
  obtain ⟨h0, h1, h2, h3, h4, h6, h7, h9, h11, h8⟩ := h
  refine ⟨h0, h1, h2, h3, fun k hk => ?_, h6, ⟨h7.1, fun i hi => ?_⟩, ⟨h9.1, fun i hi => ?_⟩, ⟨h11.1, fun i hi => ?_⟩, h8⟩
  · obtain ⟨E, hE⟩ := h4 k hk
    exact ⟨E, hE.mo ha hν⟩
  · obtain ⟨E, f, hE, hr⟩ := h7.2 i hi
    exact ⟨E, f, hE.mo ha hν, hr⟩
  · obtain ⟨f, hE, hr⟩ := h9.2 i hi
    exact ⟨f, hE.mo ha hν, hr⟩
  · obtain ⟨E, hE, hr⟩ := h11.2 i hi
    exact ⟨E, hE.mo ha hν, hr⟩
section
variable {t j : Nat}
theorem ad1_s : (S.ad t p).1 t = S.1 t + 1 := by
  show va_up S.1 t (S.1 t + 1) t = _
  rw [xh_up, if_pos rfl]
theorem ad1_o (h : j ≠ t) : (S.ad t p).1 j = S.1 j := by
  show va_up S.1 t (S.1 t + 1) j = _
  rw [xh_up, if_neg h]
theorem ad2_s : (S.ad t p).2 t = va_up (S.2 t) (S.1 t) p := by
  show va_up S.2 t (va_up (S.2 t) (S.1 t) p) t = _
  rw [xh_up, if_pos rfl]
theorem ad2_o (h : j ≠ t) : (S.ad t p).2 j = S.2 j := by
  show va_up S.2 t (va_up (S.2 t) (S.1 t) p) j = _
  rw [xh_up, if_neg h]
end
/-- a line behind the others: the places -/
theorem va_lt {P : Nat → Nat} {i c : Nat} (h : i < c) : va_up P c p i = P i := by rw [xh_up, if_neg (by omega)]
theorem va_eq {P : Nat → Nat} {c : Nat} : va_up P c p c = p := by rw [xh_up, if_pos rfl]
theorem eR.s1 (h : eR cA ν b a S n vs iv s sa) (hA : xr_A 0 n vs n' vs' L) (hL : L.length = 5) (hn : ep0 cA b p (fun j => (L.getD j 0).toInt)) : eR cA ν b a (S.ad 1 p) n' vs' iv s sa := by
  obtain ⟨h0, h1, h2, h3, h4, h6, h7, h9, h11, h8⟩ := h
  refine ⟨?_, by rw [ad1_o (t := 1) (j := 2) (by omega), ad2_o (t := 1) (j := 2) (by omega), (hA.2.1 1 (by omega)).1, (hA.2.1 1 (by omega)).2]; exact h1, fun κ hκ => by rw [ad1_o (t := 1) (j := 2) (by omega), ad2_o (t := 1) (j := 2) (by omega), ad1_o (t := 1) (j := 3 + κ) (by omega), ad2_o (t := 1) (j := 3 + κ) (by omega), (hA.2.1 (2 + κ) (by omega)).1, (hA.2.1 (2 + κ) (by omega)).2]; exact h2 κ hκ, by rw [ad1_o (t := 1) (j := 2) (by omega), ad2_o (t := 1) (j := 2) (by omega)]; exact h3, by rw [ad1_o (t := 1) (j := 6) (by omega), ad2_o (t := 1) (j := 6) (by omega)]; exact h4, by rw [ad1_o (t := 1) (j := 7) (by omega), ad2_o (t := 1) (j := 7) (by omega), (hA.2.1 6 (by omega)).1, (hA.2.1 6 (by omega)).2]; exact h6, by rw [ad1_o (t := 1) (j := 9) (by omega), ad2_o (t := 1) (j := 9) (by omega), (hA.2.1 7 (by omega)).1, (hA.2.1 7 (by omega)).2, (hA.2.1 8 (by omega)).1, (hA.2.1 8 (by omega)).2]; exact h7, by rw [ad1_o (t := 1) (j := 10) (by omega), ad2_o (t := 1) (j := 10) (by omega), (hA.2.1 9 (by omega)).1, (hA.2.1 9 (by omega)).2, (hA.2.1 10 (by omega)).1, (hA.2.1 10 (by omega)).2]; exact h9, by rw [ad1_o (t := 1) (j := 11) (by omega), ad2_o (t := 1) (j := 11) (by omega), (hA.2.1 11 (by omega)).1, (hA.2.1 11 (by omega)).2]; exact h11, by rw [ad1_o (t := 1) (j := 8) (by omega), ad2_o (t := 1) (j := 8) (by omega)]; exact h8⟩
  · rw [ad1_s, ad2_s]
    exact h0.app hA hL (fun i w hi hq => by rw [va_lt hi]; exact hq) (fun i w w' hw hq => ep0_c w w' hw hq) (by rw [va_eq]; exact hn)
theorem eR.s7 (h : eR cA ν b a S n vs iv s sa) (hA : xr_A 6 n vs n' vs' L) (hL : L.length = 5) (hn : ep6 cA b p (fun j => (L.getD j 0).toInt)) : eR cA ν b a (S.ad 7 p) n' vs' iv s sa := by
  obtain ⟨h0, h1, h2, h3, h4, h6, h7, h9, h11, h8⟩ := h
  refine ⟨by rw [ad1_o (t := 7) (j := 1) (by omega), ad2_o (t := 7) (j := 1) (by omega), (hA.2.1 0 (by omega)).1, (hA.2.1 0 (by omega)).2]; exact h0, by rw [ad1_o (t := 7) (j := 2) (by omega), ad2_o (t := 7) (j := 2) (by omega), (hA.2.1 1 (by omega)).1, (hA.2.1 1 (by omega)).2]; exact h1, fun κ hκ => by rw [ad1_o (t := 7) (j := 2) (by omega), ad2_o (t := 7) (j := 2) (by omega), ad1_o (t := 7) (j := 3 + κ) (by omega), ad2_o (t := 7) (j := 3 + κ) (by omega), (hA.2.1 (2 + κ) (by omega)).1, (hA.2.1 (2 + κ) (by omega)).2]; exact h2 κ hκ, by rw [ad1_o (t := 7) (j := 2) (by omega), ad2_o (t := 7) (j := 2) (by omega)]; exact h3, by rw [ad1_o (t := 7) (j := 6) (by omega), ad2_o (t := 7) (j := 6) (by omega)]; exact h4, ?_, by rw [ad1_o (t := 7) (j := 9) (by omega), ad2_o (t := 7) (j := 9) (by omega), (hA.2.1 7 (by omega)).1, (hA.2.1 7 (by omega)).2, (hA.2.1 8 (by omega)).1, (hA.2.1 8 (by omega)).2]; exact h7, by rw [ad1_o (t := 7) (j := 10) (by omega), ad2_o (t := 7) (j := 10) (by omega), (hA.2.1 9 (by omega)).1, (hA.2.1 9 (by omega)).2, (hA.2.1 10 (by omega)).1, (hA.2.1 10 (by omega)).2]; exact h9, by rw [ad1_o (t := 7) (j := 11) (by omega), ad2_o (t := 7) (j := 11) (by omega), (hA.2.1 11 (by omega)).1, (hA.2.1 11 (by omega)).2]; exact h11, by rw [ad1_o (t := 7) (j := 8) (by omega), ad2_o (t := 7) (j := 8) (by omega)]; exact h8⟩
  · rw [ad1_s, ad2_s]
    exact h6.app hA hL (fun i w hi hq => by rw [va_lt hi]; exact hq) (fun i w w' hw hq => ep6_c w w' hw hq) (by rw [va_eq]; exact hn)
theorem eR.s3 (h : eR cA ν b a S n vs iv s sa) (hA : xr_A 2 n vs n' vs' L) (hL : L.length = imL 0) (hn : epO cA b 0 p (fun j => (L.getD j 0).toInt)) : eR cA ν b a (S.ad 3 p) n' vs' iv s sa := by
  obtain ⟨h0, h1, h2, h3, h4, h6, h7, h9, h11, h8⟩ := h
  refine ⟨by rw [ad1_o (t := 3) (j := 1) (by omega), ad2_o (t := 3) (j := 1) (by omega), (hA.2.1 0 (by omega)).1, (hA.2.1 0 (by omega)).2]; exact h0, by rw [ad1_o (t := 3) (j := 2) (by omega), ad2_o (t := 3) (j := 2) (by omega), (hA.2.1 1 (by omega)).1, (hA.2.1 1 (by omega)).2]; exact h1, ?_, by rw [ad1_o (t := 3) (j := 2) (by omega), ad2_o (t := 3) (j := 2) (by omega)]; exact h3, by rw [ad1_o (t := 3) (j := 6) (by omega), ad2_o (t := 3) (j := 6) (by omega)]; exact h4, by rw [ad1_o (t := 3) (j := 7) (by omega), ad2_o (t := 3) (j := 7) (by omega), (hA.2.1 6 (by omega)).1, (hA.2.1 6 (by omega)).2]; exact h6, by rw [ad1_o (t := 3) (j := 9) (by omega), ad2_o (t := 3) (j := 9) (by omega), (hA.2.1 7 (by omega)).1, (hA.2.1 7 (by omega)).2, (hA.2.1 8 (by omega)).1, (hA.2.1 8 (by omega)).2]; exact h7, by rw [ad1_o (t := 3) (j := 10) (by omega), ad2_o (t := 3) (j := 10) (by omega), (hA.2.1 9 (by omega)).1, (hA.2.1 9 (by omega)).2, (hA.2.1 10 (by omega)).1, (hA.2.1 10 (by omega)).2]; exact h9, by rw [ad1_o (t := 3) (j := 11) (by omega), ad2_o (t := 3) (j := 11) (by omega), (hA.2.1 11 (by omega)).1, (hA.2.1 11 (by omega)).2]; exact h11, by rw [ad1_o (t := 3) (j := 8) (by omega), ad2_o (t := 3) (j := 8) (by omega)]; exact h8⟩
  · rintro κ hκ
    by_cases e9 : κ = 0
    · subst e9
      rw [ad1_o (j := 2) (by decide), ad2_o (j := 2) (by decide), ad1_s, ad2_s]
      exact (h2 0 hκ).own hκ hA hL hn
    · rw [ad1_o (j := 2) (by omega), ad2_o (j := 2) (by omega), ad1_o (j := 3 + κ) (by omega), ad2_o (j := 3 + κ) (by omega), (hA.2.1 (2 + κ) (by omega)).1, (hA.2.1 (2 + κ) (by omega)).2]
      exact h2 κ hκ
theorem eR.s4 (h : eR cA ν b a S n vs iv s sa) (hA : xr_A 3 n vs n' vs' L) (hL : L.length = imL 1) (hn : epO cA b 1 p (fun j => (L.getD j 0).toInt)) : eR cA ν b a (S.ad 4 p) n' vs' iv s sa := by
  obtain ⟨h0, h1, h2, h3, h4, h6, h7, h9, h11, h8⟩ := h
  refine ⟨by rw [ad1_o (t := 4) (j := 1) (by omega), ad2_o (t := 4) (j := 1) (by omega), (hA.2.1 0 (by omega)).1, (hA.2.1 0 (by omega)).2]; exact h0, by rw [ad1_o (t := 4) (j := 2) (by omega), ad2_o (t := 4) (j := 2) (by omega), (hA.2.1 1 (by omega)).1, (hA.2.1 1 (by omega)).2]; exact h1, ?_, by rw [ad1_o (t := 4) (j := 2) (by omega), ad2_o (t := 4) (j := 2) (by omega)]; exact h3, by rw [ad1_o (t := 4) (j := 6) (by omega), ad2_o (t := 4) (j := 6) (by omega)]; exact h4, by rw [ad1_o (t := 4) (j := 7) (by omega), ad2_o (t := 4) (j := 7) (by omega), (hA.2.1 6 (by omega)).1, (hA.2.1 6 (by omega)).2]; exact h6, by rw [ad1_o (t := 4) (j := 9) (by omega), ad2_o (t := 4) (j := 9) (by omega), (hA.2.1 7 (by omega)).1, (hA.2.1 7 (by omega)).2, (hA.2.1 8 (by omega)).1, (hA.2.1 8 (by omega)).2]; exact h7, by rw [ad1_o (t := 4) (j := 10) (by omega), ad2_o (t := 4) (j := 10) (by omega), (hA.2.1 9 (by omega)).1, (hA.2.1 9 (by omega)).2, (hA.2.1 10 (by omega)).1, (hA.2.1 10 (by omega)).2]; exact h9, by rw [ad1_o (t := 4) (j := 11) (by omega), ad2_o (t := 4) (j := 11) (by omega), (hA.2.1 11 (by omega)).1, (hA.2.1 11 (by omega)).2]; exact h11, by rw [ad1_o (t := 4) (j := 8) (by omega), ad2_o (t := 4) (j := 8) (by omega)]; exact h8⟩
  · rintro κ hκ
    by_cases e9 : κ = 1
    · subst e9
      rw [ad1_o (j := 2) (by decide), ad2_o (j := 2) (by decide), ad1_s, ad2_s]
      exact (h2 1 hκ).own hκ hA hL hn
    · rw [ad1_o (j := 2) (by omega), ad2_o (j := 2) (by omega), ad1_o (j := 3 + κ) (by omega), ad2_o (j := 3 + κ) (by omega), (hA.2.1 (2 + κ) (by omega)).1, (hA.2.1 (2 + κ) (by omega)).2]
      exact h2 κ hκ
theorem eR.s5 (h : eR cA ν b a S n vs iv s sa) (hA : xr_A 4 n vs n' vs' L) (hL : L.length = imL 2) (hn : epO cA b 2 p (fun j => (L.getD j 0).toInt)) : eR cA ν b a (S.ad 5 p) n' vs' iv s sa := by
  obtain ⟨h0, h1, h2, h3, h4, h6, h7, h9, h11, h8⟩ := h
  refine ⟨by rw [ad1_o (t := 5) (j := 1) (by omega), ad2_o (t := 5) (j := 1) (by omega), (hA.2.1 0 (by omega)).1, (hA.2.1 0 (by omega)).2]; exact h0, by rw [ad1_o (t := 5) (j := 2) (by omega), ad2_o (t := 5) (j := 2) (by omega), (hA.2.1 1 (by omega)).1, (hA.2.1 1 (by omega)).2]; exact h1, ?_, by rw [ad1_o (t := 5) (j := 2) (by omega), ad2_o (t := 5) (j := 2) (by omega)]; exact h3, by rw [ad1_o (t := 5) (j := 6) (by omega), ad2_o (t := 5) (j := 6) (by omega)]; exact h4, by rw [ad1_o (t := 5) (j := 7) (by omega), ad2_o (t := 5) (j := 7) (by omega), (hA.2.1 6 (by omega)).1, (hA.2.1 6 (by omega)).2]; exact h6, by rw [ad1_o (t := 5) (j := 9) (by omega), ad2_o (t := 5) (j := 9) (by omega), (hA.2.1 7 (by omega)).1, (hA.2.1 7 (by omega)).2, (hA.2.1 8 (by omega)).1, (hA.2.1 8 (by omega)).2]; exact h7, by rw [ad1_o (t := 5) (j := 10) (by omega), ad2_o (t := 5) (j := 10) (by omega), (hA.2.1 9 (by omega)).1, (hA.2.1 9 (by omega)).2, (hA.2.1 10 (by omega)).1, (hA.2.1 10 (by omega)).2]; exact h9, by rw [ad1_o (t := 5) (j := 11) (by omega), ad2_o (t := 5) (j := 11) (by omega), (hA.2.1 11 (by omega)).1, (hA.2.1 11 (by omega)).2]; exact h11, by rw [ad1_o (t := 5) (j := 8) (by omega), ad2_o (t := 5) (j := 8) (by omega)]; exact h8⟩
  · rintro κ hκ
    by_cases e9 : κ = 2
    · subst e9
      rw [ad1_o (j := 2) (by decide), ad2_o (j := 2) (by decide), ad1_s, ad2_s]
      exact (h2 2 hκ).own hκ hA hL hn
    · rw [ad1_o (j := 2) (by omega), ad2_o (j := 2) (by omega), ad1_o (j := 3 + κ) (by omega), ad2_o (j := 3 + κ) (by omega), (hA.2.1 (2 + κ) (by omega)).1, (hA.2.1 (2 + κ) (by omega)).2]
      exact h2 κ hκ
theorem eR.s6 (h : eR cA ν b a S n vs iv s sa) (hA : xr_A 5 n vs n' vs' L) (hL : L.length = imL 3) (hn : epO cA b 3 p (fun j => (L.getD j 0).toInt)) (hW : ∃ E, eW cA ν b a E (p + 2)) : eR cA ν b a (S.ad 6 p) n' vs' iv s sa := by
  obtain ⟨h0, h1, h2, h3, h4, h6, h7, h9, h11, h8⟩ := h
  refine ⟨by rw [ad1_o (t := 6) (j := 1) (by omega), ad2_o (t := 6) (j := 1) (by omega), (hA.2.1 0 (by omega)).1, (hA.2.1 0 (by omega)).2]; exact h0, by rw [ad1_o (t := 6) (j := 2) (by omega), ad2_o (t := 6) (j := 2) (by omega), (hA.2.1 1 (by omega)).1, (hA.2.1 1 (by omega)).2]; exact h1, ?_, by rw [ad1_o (t := 6) (j := 2) (by omega), ad2_o (t := 6) (j := 2) (by omega)]; exact h3, ?_, by rw [ad1_o (t := 6) (j := 7) (by omega), ad2_o (t := 6) (j := 7) (by omega), (hA.2.1 6 (by omega)).1, (hA.2.1 6 (by omega)).2]; exact h6, by rw [ad1_o (t := 6) (j := 9) (by omega), ad2_o (t := 6) (j := 9) (by omega), (hA.2.1 7 (by omega)).1, (hA.2.1 7 (by omega)).2, (hA.2.1 8 (by omega)).1, (hA.2.1 8 (by omega)).2]; exact h7, by rw [ad1_o (t := 6) (j := 10) (by omega), ad2_o (t := 6) (j := 10) (by omega), (hA.2.1 9 (by omega)).1, (hA.2.1 9 (by omega)).2, (hA.2.1 10 (by omega)).1, (hA.2.1 10 (by omega)).2]; exact h9, by rw [ad1_o (t := 6) (j := 11) (by omega), ad2_o (t := 6) (j := 11) (by omega), (hA.2.1 11 (by omega)).1, (hA.2.1 11 (by omega)).2]; exact h11, by rw [ad1_o (t := 6) (j := 8) (by omega), ad2_o (t := 6) (j := 8) (by omega)]; exact h8⟩
  · rintro κ hκ
    by_cases e9 : κ = 3
    · subst e9
      rw [ad1_o (j := 2) (by decide), ad2_o (j := 2) (by decide), ad1_s, ad2_s]
      exact (h2 3 hκ).own hκ hA hL hn
    · rw [ad1_o (j := 2) (by omega), ad2_o (j := 2) (by omega), ad1_o (j := 3 + κ) (by omega), ad2_o (j := 3 + κ) (by omega), (hA.2.1 (2 + κ) (by omega)).1, (hA.2.1 (2 + κ) (by omega)).2]
      exact h2 κ hκ
  · rw [ad1_s, ad2_s]
    intro k hk
    rcases Nat.lt_or_ge k (S.1 6) with h99 | h99
    · rw [va_lt h99]
      exact h4 k h99
    · rw [show k = S.1 6 by omega, va_eq]
      exact hW
theorem eR.s11 (h : eR cA ν b a S n vs iv s sa) (hA : xr_A 11 n vs n' vs' L) (hL : L.length = 5) (hW : ∃ E, eW cA ν b a E (cE cA p) ∧ (L.getD 0 0).toInt + b = p ∧ (L.getD 1 0).toInt = cV cA p ∧ (L.getD 2 0).toInt + b = cE cA p ∧ (L.getD 3 0).toInt + b = cE cA E ∧ (L.getD 4 0).toInt = cV cA E) : eR cA ν b a (S.ad 11 p) n' vs' iv s sa := by
  obtain ⟨h0, h1, h2, h3, h4, h6, h7, h9, h11, h8⟩ := h
  refine ⟨by rw [ad1_o (t := 11) (j := 1) (by omega), ad2_o (t := 11) (j := 1) (by omega), (hA.2.1 0 (by omega)).1, (hA.2.1 0 (by omega)).2]; exact h0, by rw [ad1_o (t := 11) (j := 2) (by omega), ad2_o (t := 11) (j := 2) (by omega), (hA.2.1 1 (by omega)).1, (hA.2.1 1 (by omega)).2]; exact h1, fun κ hκ => by rw [ad1_o (t := 11) (j := 2) (by omega), ad2_o (t := 11) (j := 2) (by omega), ad1_o (t := 11) (j := 3 + κ) (by omega), ad2_o (t := 11) (j := 3 + κ) (by omega), (hA.2.1 (2 + κ) (by omega)).1, (hA.2.1 (2 + κ) (by omega)).2]; exact h2 κ hκ, by rw [ad1_o (t := 11) (j := 2) (by omega), ad2_o (t := 11) (j := 2) (by omega)]; exact h3, by rw [ad1_o (t := 11) (j := 6) (by omega), ad2_o (t := 11) (j := 6) (by omega)]; exact h4, by rw [ad1_o (t := 11) (j := 7) (by omega), ad2_o (t := 11) (j := 7) (by omega), (hA.2.1 6 (by omega)).1, (hA.2.1 6 (by omega)).2]; exact h6, by rw [ad1_o (t := 11) (j := 9) (by omega), ad2_o (t := 11) (j := 9) (by omega), (hA.2.1 7 (by omega)).1, (hA.2.1 7 (by omega)).2, (hA.2.1 8 (by omega)).1, (hA.2.1 8 (by omega)).2]; exact h7, by rw [ad1_o (t := 11) (j := 10) (by omega), ad2_o (t := 11) (j := 10) (by omega), (hA.2.1 9 (by omega)).1, (hA.2.1 9 (by omega)).2, (hA.2.1 10 (by omega)).1, (hA.2.1 10 (by omega)).2]; exact h9, ?_, by rw [ad1_o (t := 11) (j := 8) (by omega), ad2_o (t := 11) (j := 8) (by omega)]; exact h8⟩
  · rw [ad1_s, ad2_s]
    refine ⟨by rw [hA.1, h11.1, hL]; omega, fun i hi => ?_⟩
    rcases Nat.lt_or_ge i (S.1 11) with h99 | h99
    · have e0 := h11.1
      rw [va_lt h99, hA.2.2.1 _ (by omega), hA.2.2.1 _ (by omega), hA.2.2.1 _ (by omega), hA.2.2.1 _ (by omega), hA.2.2.1 _ (by omega)]
      exact h11.2 i h99
    · have e0 := h11.1
      have w0 := hA.2.2.2 0 (by omega)
      rw [Nat.add_zero] at w0
      rw [show i = S.1 11 by omega, va_eq, ← e0, w0, hA.2.2.2 1 (by omega), hA.2.2.2 2 (by omega), hA.2.2.2 3 (by omega), hA.2.2.2 4 (by omega)]
      exact hW
theorem eR.s9 (h : eR cA ν b a S n vs iv s sa) (e7 : n' 7 = n 7 + 5) (e8 : n' 8 = n 8 + 2 * cV cA E) (hO : ∀ j, j ≠ 7 → j ≠ 8 → n' j = n j ∧ vs' j = vs j) (k7 : ∀ i, i < n 7 → vs' 7 i = vs 7 i) (k8 : ∀ i, i < n 8 → vs' 8 i = vs 8 i) (hW : eW cA ν b a E (cE cA p)) (hl : (vs' 7 (n 7)).toInt + b = p ∧ (vs' 7 (n 7 + 1)).toInt = cV cA p ∧ (vs' 7 (n 7 + 2)).toInt + b = cE cA p ∧ 2 * (vs' 7 (n 7 + 3)).toInt = n 8 ∧ (vs' 7 (n 7 + 4)).toInt = cV cA E) (hls : lst8 cA b (n 8) (cE cA E) (cV cA E) (vs' 8)) : eR cA ν b a (S.ad 9 p) n' vs' iv s sa := by
  obtain ⟨h0, h1, h2, h3, h4, h6, h7, h9, h11, h8⟩ := h
  have NV : ∀ j, j ≠ 7 ∧ j ≠ 8 → n' j = n j ∧ vs' j = vs j := fun j hj => hO j hj.1 hj.2
  refine ⟨by rw [ad1_o (t := 9) (j := 1) (by omega), ad2_o (t := 9) (j := 1) (by omega), (NV 0 (by omega)).1, (NV 0 (by omega)).2]; exact h0, by rw [ad1_o (t := 9) (j := 2) (by omega), ad2_o (t := 9) (j := 2) (by omega), (NV 1 (by omega)).1, (NV 1 (by omega)).2]; exact h1, fun κ hκ => by rw [ad1_o (t := 9) (j := 2) (by omega), ad2_o (t := 9) (j := 2) (by omega), ad1_o (t := 9) (j := 3 + κ) (by omega), ad2_o (t := 9) (j := 3 + κ) (by omega), (NV (2 + κ) (by omega)).1, (NV (2 + κ) (by omega)).2]; exact h2 κ hκ, by rw [ad1_o (t := 9) (j := 2) (by omega), ad2_o (t := 9) (j := 2) (by omega)]; exact h3, by rw [ad1_o (t := 9) (j := 6) (by omega), ad2_o (t := 9) (j := 6) (by omega)]; exact h4, by rw [ad1_o (t := 9) (j := 7) (by omega), ad2_o (t := 9) (j := 7) (by omega), (NV 6 (by omega)).1, (NV 6 (by omega)).2]; exact h6, ?_, by rw [ad1_o (t := 9) (j := 10) (by omega), ad2_o (t := 9) (j := 10) (by omega), (NV 9 (by omega)).1, (NV 9 (by omega)).2, (NV 10 (by omega)).1, (NV 10 (by omega)).2]; exact h9, by rw [ad1_o (t := 9) (j := 11) (by omega), ad2_o (t := 9) (j := 11) (by omega), (NV 11 (by omega)).1, (NV 11 (by omega)).2]; exact h11, by rw [ad1_o (t := 9) (j := 8) (by omega), ad2_o (t := 9) (j := 8) (by omega)]; exact h8⟩
  · rw [ad1_s, ad2_s]
    refine ⟨by rw [e7, h7.1]; omega, fun i hi => ?_⟩
    rcases Nat.lt_or_ge i (S.1 9) with h99 | h99
    · have e0 := h7.1
      obtain ⟨E', f, w1, w2, w3, w4, w5, w6, w7, w8⟩ := h7.2 i h99
      rw [va_lt h99, k7 _ (by omega), k7 _ (by omega), k7 _ (by omega), k7 _ (by omega), k7 _ (by omega)]
      exact ⟨E', f, w1, w2, w3, w4, w5, w6, by omega, fun k hk => by rw [k8 _ (by omega), k8 _ (by omega)]; exact w8 k hk⟩
    · have e0 := h7.1
      obtain ⟨w1, w2, w3, w4, w5⟩ := hl
      rw [show i = S.1 9 by omega, va_eq, ← e0]
      have ef : (2 * (vs' 7 (n 7 + 3)).toInt.toNat : Nat) = n 8 := by omega
      exact ⟨E, (vs' 7 (n 7 + 3)).toInt.toNat, hW, w1, w2, w3, by omega, w5, by omega, by rw [ef]; exact hls⟩
theorem eR.s10 (h : eR cA ν b a S n vs iv s sa) (e9 : n' 9 = n 9 + 5) (e10 : n' 10 = n 10 + 2 * cV cA (cE cA p)) (hO : ∀ j, j ≠ 9 → j ≠ 10 → n' j = n j ∧ vs' j = vs j) (k9 : ∀ i, i < n 9 → vs' 9 i = vs 9 i) (k10 : ∀ i, i < n 10 → vs' 10 i = vs 10 i) (hd : ∃ f, n 10 = 2 * f) (hW : eW cA ν b a (cE cA p + cV cA p) (lgE cA (cV cA (cE cA p)) (cE cA (cE cA p)))) (hl : ep9 cA b (n 10 / 2) p (fun j => (vs' 9 (n 9 + j)).toInt)) (hls : grp10 cA (n 10) (cE cA (cE cA p)) (cV cA (cE cA p)) (vs' 10)) : eR cA ν b a (S.ad 10 p) n' vs' iv s sa := by
  obtain ⟨h0, h1, h2, h3, h4, h6, h7, h9, h11, h8⟩ := h
  have NV : ∀ j, j ≠ 9 ∧ j ≠ 10 → n' j = n j ∧ vs' j = vs j := fun j hj => hO j hj.1 hj.2
  refine ⟨by rw [ad1_o (t := 10) (j := 1) (by omega), ad2_o (t := 10) (j := 1) (by omega), (NV 0 (by omega)).1, (NV 0 (by omega)).2]; exact h0, by rw [ad1_o (t := 10) (j := 2) (by omega), ad2_o (t := 10) (j := 2) (by omega), (NV 1 (by omega)).1, (NV 1 (by omega)).2]; exact h1, fun κ hκ => by rw [ad1_o (t := 10) (j := 2) (by omega), ad2_o (t := 10) (j := 2) (by omega), ad1_o (t := 10) (j := 3 + κ) (by omega), ad2_o (t := 10) (j := 3 + κ) (by omega), (NV (2 + κ) (by omega)).1, (NV (2 + κ) (by omega)).2]; exact h2 κ hκ, by rw [ad1_o (t := 10) (j := 2) (by omega), ad2_o (t := 10) (j := 2) (by omega)]; exact h3, by rw [ad1_o (t := 10) (j := 6) (by omega), ad2_o (t := 10) (j := 6) (by omega)]; exact h4, by rw [ad1_o (t := 10) (j := 7) (by omega), ad2_o (t := 10) (j := 7) (by omega), (NV 6 (by omega)).1, (NV 6 (by omega)).2]; exact h6, by rw [ad1_o (t := 10) (j := 9) (by omega), ad2_o (t := 10) (j := 9) (by omega), (NV 7 (by omega)).1, (NV 7 (by omega)).2, (NV 8 (by omega)).1, (NV 8 (by omega)).2]; exact h7, ?_, by rw [ad1_o (t := 10) (j := 11) (by omega), ad2_o (t := 10) (j := 11) (by omega), (NV 11 (by omega)).1, (NV 11 (by omega)).2]; exact h11, by rw [ad1_o (t := 10) (j := 8) (by omega), ad2_o (t := 10) (j := 8) (by omega)]; exact h8⟩
  · rw [ad1_s, ad2_s]
    refine ⟨by rw [e9, h9.1]; omega, fun i hi => ?_⟩
    rcases Nat.lt_or_ge i (S.1 10) with h99 | h99
    · have e0 := h9.1
      obtain ⟨f, w1, w2, w3, w4⟩ := h9.2 i h99
      rw [va_lt h99]
      exact ⟨f, w1, ep9_c _ _ (fun j hj => by rw [k9 _ (by omega)]) w2, by omega, fun k hk => by rw [k10 _ (by omega), k10 _ (by omega)]; exact w4 k hk⟩
    · have e0 := h9.1
      obtain ⟨f, hf⟩ := hd
      rw [show i = S.1 10 by omega, va_eq]
      refine ⟨n 10 / 2, hW, ?_, by omega, by rw [show 2 * (n 10 / 2) = n 10 by omega]; exact hls⟩
      rw [← e0]
      exact hl
theorem eR.s8 (h : eR cA ν b a S n vs iv s sa) {s' sa' : Int32} (h80 : S.1 8 = 0) (w1 : 0 ≤ sa'.toInt ∧ sa'.toInt + b = p) (w2 : s'.toBitVec.toNat = cV cA p) : eR cA ν b a (S.ad 8 p) n vs iv s' sa' := by
  obtain ⟨h0, h1, h2, h3, h4, h6, h7, h9, h11, h8⟩ := h
  have NV : ∀ j : Nat, True → n j = n j ∧ vs j = vs j := fun _ _ => ⟨rfl, rfl⟩
  refine ⟨by rw [ad1_o (t := 8) (j := 1) (by omega), ad2_o (t := 8) (j := 1) (by omega), (NV 0 trivial).1, (NV 0 trivial).2]; exact h0, by rw [ad1_o (t := 8) (j := 2) (by omega), ad2_o (t := 8) (j := 2) (by omega), (NV 1 trivial).1, (NV 1 trivial).2]; exact h1, fun κ hκ => by rw [ad1_o (t := 8) (j := 2) (by omega), ad2_o (t := 8) (j := 2) (by omega), ad1_o (t := 8) (j := 3 + κ) (by omega), ad2_o (t := 8) (j := 3 + κ) (by omega), (NV (2 + κ) trivial).1, (NV (2 + κ) trivial).2]; exact h2 κ hκ, by rw [ad1_o (t := 8) (j := 2) (by omega), ad2_o (t := 8) (j := 2) (by omega)]; exact h3, by rw [ad1_o (t := 8) (j := 6) (by omega), ad2_o (t := 8) (j := 6) (by omega)]; exact h4, by rw [ad1_o (t := 8) (j := 7) (by omega), ad2_o (t := 8) (j := 7) (by omega), (NV 6 trivial).1, (NV 6 trivial).2]; exact h6, by rw [ad1_o (t := 8) (j := 9) (by omega), ad2_o (t := 8) (j := 9) (by omega), (NV 7 trivial).1, (NV 7 trivial).2, (NV 8 trivial).1, (NV 8 trivial).2]; exact h7, by rw [ad1_o (t := 8) (j := 10) (by omega), ad2_o (t := 8) (j := 10) (by omega), (NV 9 trivial).1, (NV 9 trivial).2, (NV 10 trivial).1, (NV 10 trivial).2]; exact h9, by rw [ad1_o (t := 8) (j := 11) (by omega), ad2_o (t := 8) (j := 11) (by omega), (NV 11 trivial).1, (NV 11 trivial).2]; exact h11, ?_⟩
  · rw [ad1_s, ad2_s]
    exact ⟨fun h99 => by omega, fun _ => by rw [h80, va_eq]; exact ⟨w1, w2⟩⟩
/-- an import -/
theorem eR.s2 (h : eR cA ν b a S n vs iv s sa) (h0z : ∀ κ, κ < 4 → S.1 (3 + κ) = 0) (hκ : κ0 < 4) (hk : (ub cA (qN cA (qN cA p))).toInt = κ0) (hiv : iv' = va_up iv κ0 (iv κ0 + 1)) (hi1 : (iv κ0 + 1).toInt = (iv κ0).toInt + 1) (hA1 : xr_A 1 n vs n1 vs1 L1) (hL1 : L1.length = 7) (hn1 : ep1 cA b (iv κ0).toInt p (fun j => (L1.getD j 0).toInt)) (hA : xr_A (2 + κ0) n1 vs1 n' vs' L2) (hL2 : L2.length = imL κ0) (hn2 : epI cA b κ0 p (fun j => (L2.getD j 0).toInt)) : eR cA ν b a (S.ad 2 p) n' vs' iv' s sa := by
  obtain ⟨h0, h1, h2, h3, h4, h6, h7, h9, h11, h8⟩ := h
  have NV : ∀ j, j ≠ 1 ∧ j ≠ 2 + κ0 → n' j = n j ∧ vs' j = vs j := fun j hj => ⟨by rw [(hA.2.1 j hj.2).1, (hA1.2.1 j hj.1).1], by rw [(hA.2.1 j hj.2).2, (hA1.2.1 j hj.1).2]⟩
  have hcg : ∀ κ m, m ≤ S.1 2 → kcn cA (va_up (S.2 2) (S.1 2) p) κ m = kcn cA (S.2 2) κ m := fun κ m hm => kcn_cgx (fun i hi => va_lt (by omega))
  refine ⟨by rw [ad1_o (t := 2) (j := 1) (by omega), ad2_o (t := 2) (j := 1) (by omega), (NV 0 (by omega)).1, (NV 0 (by omega)).2]; exact h0, ?_, ?_, ?_, by rw [ad1_o (t := 2) (j := 6) (by omega), ad2_o (t := 2) (j := 6) (by omega)]; exact h4, by rw [ad1_o (t := 2) (j := 7) (by omega), ad2_o (t := 2) (j := 7) (by omega), (NV 6 (by omega)).1, (NV 6 (by omega)).2]; exact h6, by rw [ad1_o (t := 2) (j := 9) (by omega), ad2_o (t := 2) (j := 9) (by omega), (NV 7 (by omega)).1, (NV 7 (by omega)).2, (NV 8 (by omega)).1, (NV 8 (by omega)).2]; exact h7, by rw [ad1_o (t := 2) (j := 10) (by omega), ad2_o (t := 2) (j := 10) (by omega), (NV 9 (by omega)).1, (NV 9 (by omega)).2, (NV 10 (by omega)).1, (NV 10 (by omega)).2]; exact h9, by rw [ad1_o (t := 2) (j := 11) (by omega), ad2_o (t := 2) (j := 11) (by omega), (NV 11 (by omega)).1, (NV 11 (by omega)).2]; exact h11, by rw [ad1_o (t := 2) (j := 8) (by omega), ad2_o (t := 2) (j := 8) (by omega)]; exact h8⟩
  · rw [ad1_s, ad2_s, (hA.2.1 1 (by omega)).1, (hA.2.1 1 (by omega)).2]
    refine rwP.app h1 hA1 hL1 (fun i w hi hq => ?_) (fun i w w' hw hq => ep1_c w w' hw hq) ?_
    · rw [va_lt hi, hcg _ i (by omega)]
      exact hq
    · rw [va_eq, hcg _ _ (Nat.le_refl _), hk, Int.toNat_natCast, ← h3 κ0 hκ]
      exact hn1
  · intro κ hκ'
    rw [ad1_s, ad2_s, ad1_o (t := 2) (j := 3 + κ) (by omega), ad2_o (t := 2) (j := 3 + κ) (by omega), h0z κ hκ']
    have hI := h2 κ hκ'
    rw [h0z κ hκ'] at hI
    by_cases e9 : κ = κ0
    · subst e9
      have hI1 : eI_ cA b κ (S.1 2) (S.2 2) 0 (S.2 (3 + κ)) (n1 (2 + κ)) (vs1 (2 + κ)) := by
        rw [(hA1.2.1 (2 + κ) (by omega)).1, (hA1.2.1 (2 + κ) (by omega)).2]
        exact hI
      exact hI1.imp hκ hk hA hL2 hn2
    · exact hI.oth (by rw [hk]; omega) (NV (2 + κ) (by omega)).1 (NV (2 + κ) (by omega)).2
  · intro κ hκ'
    rw [ad1_s, ad2_s]
    show _ = ((kcn cA (va_up (S.2 2) (S.1 2) p) κ (S.1 2) + _ : Nat) : Int)
    rw [hcg κ _ (Nat.le_refl _), va_eq, hk, hiv, xh_up]
    have := h3 κ hκ'
    by_cases e9 : κ = κ0
    · subst e9
      rw [if_pos rfl, if_pos rfl, hi1, this]
      omega
    · rw [if_neg e9, if_neg (by omega), this]
      rfl
end CR9

-- the reference: an instance settles
/-- an instance in the making, all but settled -/
def nwI (A : Nat → Nat) (F : Nat → Nat → Int32) (v : Nat → Int32) (DM : Nat → zM) (rl m : Nat) : Prop :=
  (vN v 30 < 24 ∧ m < vN v 5 ∧ vN v 43 + qt (DM m) 3 ≤ 8192 ∧ vN v 58 + qt (DM m) 6 ≤ 4096 ∧ vN v 34 + qt (DM m) 2 ≤ rl ∧ qt (DM m) 2 ≤ 10240) ∧
  ((F (A 31) (vN v 30)).toInt = m ∧ (F (A 32) (vN v 30)).toInt = vN v 34 ∧ (F (A 35) (vN v 30)).toInt = vN v 43 ∧ (F (A 36) (vN v 30)).toInt = vN v 58 ∧ (F (A 37) (vN v 30)).toInt = vN v 46 ∧ (F (A 38) (vN v 30)).toInt = vN v 52) ∧
  (0 < qt (DM m) 4 → (F (A 48) (vN v 46)).toInt = vN v 47 ∧ ∃ tz : Nat, (F (A 49) (vN v 46)).toInt = tz ∧ vN v 47 + tz ≤ 16384) ∧
  (0 < qt (DM m) 5 → ∃ pc : Nat, (F (A 54) (vN v 52)).toInt = pc ∧ vN v 53 + pc ≤ 16) ∧
  (∀ k, k < qt (DM m) 2 → rOK (fun k => F (A k)) v DM (DM m) k (F (A 33) (vN v 34 + k)).toInt) ∧
  ∀ k, k < qt (DM m) 6 → (F (A 59) (vN v 58 + k)).toInt = vty (DM m) (iM (DM m) 3 + k)
/-- what settling has written: functions, elements, pages -/
def stW (A : Nat → Nat) (F : Nat → Nat → Int32) (v : Nat → Int32) (n t p : Nat) (G : Nat → Nat → Int32) : Prop :=
  (∀ j, ¬ (vN v 43 ≤ j ∧ j < vN v 43 + n) → G (A 44) j = F (A 44) j ∧ G (A 45) j = F (A 45) j) ∧
  (∀ j, G (A 51) j = if vN v 47 ≤ j ∧ j < vN v 47 + t then 0 else F (A 51) j) ∧
  (∀ j, ¬ (16 * vN v 52 ≤ j ∧ j < 16 * vN v 52 + p) → G (A 56) j = F (A 56) j) ∧
  ∀ k, k < p → (G (A 56) (16 * vN v 52 + k)).toInt = (vN v 53 + k : Nat)
/-- a settled instance, exactly -/
def stX (A : Nat → Nat) (F : Nat → Nat → Int32) (v : Nat → Int32) (D : zM) (F' : Nat → Nat → Int32) (v' : Nat → Int32) : Prop :=
  stW A F v (qt D 3) (if qt D 4 = 0 then 0 else (F (A 49) (vN v 46)).toInt.toNat) (if qt D 5 = 0 then 0 else (F (A 54) (vN v 52)).toInt.toNat) F' ∧
  (∀ k, k < qt D 3 → (F' (A 44) (vN v 43 + k)).toInt = vN v 30 ∧ (F' (A 45) (vN v 43 + k)).toInt = k) ∧
  (v' 34).toInt = (vN v 34 + qt D 2 : Nat) ∧ (v' 43).toInt = (vN v 43 + qt D 3 : Nat) ∧ (v' 58).toInt = (vN v 58 + qt D 6 : Nat) ∧
  (v' 46).toInt = (vN v 46 + (if qt D 4 = 0 then 0 else 1) : Nat) ∧ (v' 47).toInt = (vN v 47 + (if qt D 4 = 0 then 0 else (F (A 49) (vN v 46)).toInt.toNat) : Nat) ∧
  (v' 52).toInt = (vN v 52 + (if qt D 5 = 0 then 0 else 1) : Nat) ∧ (v' 53).toInt = (vN v 53 + (if qt D 5 = 0 then 0 else (F (A 54) (vN v 52)).toInt.toNat) : Nat)
theorem stW.rf (A : Nat → Nat) (F : Nat → Nat → Int32) (v : Nat → Int32) : stW A F v 0 0 0 F :=
  ⟨fun _ _ => ⟨rfl, rfl⟩, fun j => by rw [if_neg (by omega)], fun _ _ => rfl, fun k hk => by omega⟩
theorem stW.w4 {A : Nat → Nat} {F G : Nat → Nat → Int32} {v : Nat → Int32} {n n' t p c j : Nat} {x : Int32} (hS : stW A F v n t p G) (hne : ∀ k k', k ∈ [44, 45, 51, 56] → k' ∈ [44, 45, 51, 56] → k ≠ k' → A k ≠ A k') (hc : c ∈ [44, 45]) (hn : n ≤ n') (h1 : vN v 43 ≤ j) (h2 : j < vN v 43 + n') : stW A F v n' t p (va_up G (A c) (va_up (G (A c)) j x)) := by
  obtain ⟨a, b, d, e⟩ := hS
  have hc4 : c ∈ [44, 45, 51, 56] := (by decide : ∀ c, c ∈ [44, 45] → c ∈ [44, 45, 51, 56]) c hc
  have c51 : (51 : Nat) ≠ c := fun e => absurd (e ▸ hc) (by decide)
  have c56 : (56 : Nat) ≠ c := fun e => absurd (e ▸ hc) (by decide)
  have at_ : ∀ k, k ∈ [44, 45, 51, 56] → ∀ i, i ≠ j → va_up G (A c) (va_up (G (A c)) j x) (A k) i = G (A k) i := fun k hk i hi => by
    by_cases h9 : k = c
    · subst h9
      rw [xh_up, if_pos rfl, xh_up, if_neg hi]
    · rw [xh_up, if_neg (hne k c hk hc4 h9)]
  have e51 : va_up G (A c) (va_up (G (A c)) j x) (A 51) = G (A 51) := by rw [xh_up, if_neg (hne 51 c (by decide) hc4 c51)]
  have e56 : va_up G (A c) (va_up (G (A c)) j x) (A 56) = G (A 56) := by rw [xh_up, if_neg (hne 56 c (by decide) hc4 c56)]
  refine ⟨fun i hi => ?_, fun i => by rw [e51]; exact b i, fun i hi => by rw [e56]; exact d i hi, fun k hk => by rw [e56]; exact e k hk⟩
  rw [at_ 44 (by decide) i (fun e9 => hi (by omega)), at_ 45 (by decide) i (fun e9 => hi (by omega))]
  exact a i (by omega)
theorem stW.w1 {A : Nat → Nat} {F G : Nat → Nat → Int32} {v : Nat → Int32} {n t p : Nat} (hS : stW A F v n t p G) (hne : ∀ k k', k ∈ [44, 45, 51, 56] → k' ∈ [44, 45, 51, 56] → k ≠ k' → A k ≠ A k') : stW A F v n (t + 1) p (va_up G (A 51) (va_up (G (A 51)) (vN v 47 + t) 0)) := by
  obtain ⟨a, b, d, e⟩ := hS
  have o : ∀ k, k ∈ [44, 45, 51, 56] → k ≠ 51 → va_up G (A 51) (va_up (G (A 51)) (vN v 47 + t) 0) (A k) = G (A k) := fun k hk h9 => by rw [xh_up, if_neg (hne k 51 hk (by decide) h9)]
  refine ⟨fun i hi => by rw [o 44 (by decide) (by decide), o 45 (by decide) (by decide)]; exact a i hi, fun i => ?_, fun i hi => by rw [o 56 (by decide) (by decide)]; exact d i hi, fun k hk => by rw [o 56 (by decide) (by decide)]; exact e k hk⟩
  rw [xh_up G (A 51) _ (A 51), if_pos rfl, xh_up]
  by_cases h9 : i = vN v 47 + t
  · rw [if_pos h9, if_pos (by omega)]
  · rw [if_neg h9, b i]
    by_cases h8 : vN v 47 ≤ i ∧ i < vN v 47 + t
    · rw [if_pos h8, if_pos (by omega)]
    · rw [if_neg h8, if_neg (by omega)]
theorem stW.w6 {A : Nat → Nat} {F G : Nat → Nat → Int32} {v : Nat → Int32} {n t p : Nat} {x : Int32} (hS : stW A F v n t p G) (hne : ∀ k k', k ∈ [44, 45, 51, 56] → k' ∈ [44, 45, 51, 56] → k ≠ k' → A k ≠ A k') (hx : x.toInt = (vN v 53 + p : Nat)) : stW A F v n t (p + 1) (va_up G (A 56) (va_up (G (A 56)) (16 * vN v 52 + p) x)) := by
  obtain ⟨a, b, d, e⟩ := hS
  have o : ∀ k, k ∈ [44, 45, 51, 56] → k ≠ 56 → va_up G (A 56) (va_up (G (A 56)) (16 * vN v 52 + p) x) (A k) = G (A k) := fun k hk h9 => by rw [xh_up, if_neg (hne k 56 hk (by decide) h9)]
  refine ⟨fun i hi => by rw [o 44 (by decide) (by decide), o 45 (by decide) (by decide)]; exact a i hi, fun i => by rw [o 51 (by decide) (by decide)]; exact b i, fun i hi => ?_, fun k hk => ?_⟩
  · rw [xh_up G (A 56) _ (A 56), if_pos rfl, xh_up, if_neg (fun e9 => hi (by omega))]
    exact d i (by omega)
  · rw [xh_up G (A 56) _ (A 56), if_pos rfl, xh_up]
    by_cases h9 : k = p
    · subst h9
      rw [if_pos rfl]
      exact hx
    · rw [if_neg (by omega)]
      exact e k (by omega)
section MN5
variable {own own' : Nat → Nat} {mm m i ip k f t n : Nat} {A A' : Nat → Nat} {h h' h2 : xb_H} {F F' F2 : Nat → Nat → Int32} {v v' v2 v0 cb : Nat → Int32} {D : zM} {DM : Nat → zM} {len rl K rc rs bc bs E : Nat} {Qr : Int32 → xb_H → Prop} {Q : xb_H → Prop}
/-- the world with the instance in it -/
theorem rA.st (hA : rA own mm A h F v DM len rl K) (hN : nwI A F v DM rl m) (h62 : v' 62 = 0) (hf : f0 own h F h F') (hF : ∀ k, (∃ e ∈ aL, e.1 = k) → k ∉ [44, 45, 51, 56] → F' (A k) = F (A k)) (h300 : ∀ a, own a = 300 → F' a = F a)
    (hv : ∀ k, k ∉ [30, 34, 43, 46, 47, 52, 53, 58, 62] → v' k = v k) (u30 : (v' 30).toInt = (vN v 30 + 1 : Nat)) (u34 : (v' 34).toInt = (vN v 34 + qt (DM m) 2 : Nat)) (u43 : (v' 43).toInt = (vN v 43 + qt (DM m) 3 : Nat)) (u58 : (v' 58).toInt = (vN v 58 + qt (DM m) 6 : Nat))
    (u46 : (v' 46).toInt = (vN v 46 + (if qt (DM m) 4 = 0 then 0 else 1) : Nat)) (u47 : (v' 47).toInt = (vN v 47 + (if qt (DM m) 4 = 0 then 0 else (F (A 49) (vN v 46)).toInt.toNat) : Nat)) (u52 : (v' 52).toInt = (vN v 52 + (if qt (DM m) 5 = 0 then 0 else 1) : Nat)) (u53 : (v' 53).toInt = (vN v 53 + (if qt (DM m) 5 = 0 then 0 else (F (A 54) (vN v 52)).toInt.toNat) : Nat))
    (h44 : ∀ f, f < vN v 43 → F' (A 44) f = F (A 44) f ∧ F' (A 45) f = F (A 45) f) (h44n : ∀ k, k < qt (DM m) 3 → (F' (A 44) (vN v 43 + k)).toInt = vN v 30 ∧ (F' (A 45) (vN v 43 + k)).toInt = k) (h51 : ∀ j, F' (A 51) j = F (A 51) j ∨ F' (A 51) j = 0) (h56 : ∀ j, F' (A 56) j = F (A 56) j ∨ (0 ≤ (F' (A 56) j).toInt ∧ (F' (A 56) j).toInt ≤ 15)) : rA own mm A h F' v' DM len rl K := by
  have hB := hA.B
  obtain ⟨⟨m1, m2, m3, m4, m5, m6⟩, ⟨d1, d2, d3, d4, d5, d6⟩, hT, hP, hI, hV⟩ := hN
  obtain ⟨w1, w2, w3, w4, w5, w6, w7, w8⟩ := hA.W1
  obtain ⟨r1, r2, r3, r4, r5⟩ := hA.2.2.1
  have n43 := (hA.n (k := 43) (b := 8192) (by decide)).2
  have n46 := (hA.n (k := 46) (b := 24) (by decide)).2
  have n52 := (hA.n (k := 52) (b := 24) (by decide)).2
  have n53 := (hA.n (k := 53) (b := 16) (by decide)).2
  have n47 := (hA.n (k := 47) (b := 16384) (by decide)).2
  obtain ⟨b2, b3, b4, b5⟩ := hA.I.2
  have ev : ∀ k, k ∉ [30, 34, 43, 46, 47, 52, 53, 58, 62] → vN v' k = vN v k := fun k hk => by
    unfold vN
    rw [hv k hk]
  have t46 : vN v 46 ≤ vN v' 46 ∧ vN v' 46 ≤ vN v 46 + 1 := by rw [vN_of u46]; split <;> omega
  have t52 : vN v 52 ≤ vN v' 52 ∧ vN v' 52 ≤ vN v 52 + 1 := by rw [vN_of u52]; split <;> omega
  have t47 : vN v 47 ≤ vN v' 47 ∧ vN v' 47 ≤ 16384 := by
    rw [vN_of u47]
    split
    · omega
    · obtain ⟨-, tz, y1, y2⟩ := hT (by omega)
      rw [y1]
      omega
  have t53 : vN v 53 ≤ vN v' 53 ∧ vN v' 53 ≤ 16 := by
    rw [vN_of u53]
    split
    · omega
    · obtain ⟨pc, y1, y2⟩ := hP (by omega)
      rw [y1]
      omega
  have hF' : ∀ k, k ∈ aRI → k ∉ [44, 45, 51, 56] → F' (A k) = F (A k) := fun k hk h9 => hF k ((by decide : ∀ k, k ∈ aRI → ∃ e ∈ aL, e.1 = k) k hk) h9
  obtain ⟨φ, hφ⟩ : ∃ φ : Nat → Nat → Int32, φ = fun k => F (A k) := ⟨_, rfl⟩
  obtain ⟨φ', hφ'⟩ : ∃ φ' : Nat → Nat → Int32, φ' = fun k => F' (A k) := ⟨_, rfl⟩
  have pk : ∀ k, k ∈ aRI → k ∉ [44, 45, 51, 56] → φ' k = φ k := fun k hk h9 => by
    rw [hφ, hφ']
    exact hF' k hk h9
  rw [← hφ] at b2 b3 b4 b5 hI
  have hg : Gr φ v DM φ' v' DM := by
    refine ⟨fun k hk => ?_, fun _ _ => rfl, fun k hk i _ => ?_, fun j _ => by rw [pk 33 (by decide) (by decide)], fun f hf9 => ?_, fun g _ => by rw [pk 59 (by decide) (by decide)]⟩
    · have q : ∀ k, k ∈ [5, 30, 34, 43, 46, 52, 58] → k = 5 ∨ k = 30 ∨ k = 34 ∨ k = 43 ∨ k = 46 ∨ k = 52 ∨ k = 58 := by decide
      rcases q k hk with e | e | e | e | e | e | e <;> subst e
      · rw [ev 5 (by decide)]; exact Nat.le_refl _
      · rw [vN_of u30]; omega
      · rw [vN_of u34]; omega
      · rw [vN_of u43]; omega
      · exact t46.1
      · exact t52.1
      · rw [vN_of u58]; omega
    · have q : ∀ k, k ∈ [31, 32, 35, 36, 37, 38] → k ∈ aRI ∧ k ∉ [44, 45, 51, 56] := by decide
      rw [pk k (q k hk).1 (q k hk).2]
    · rw [hφ, hφ']
      exact h44 f hf9
  have hiN : iOK φ' v' DM (vN v 30) := by
    refine ⟨m, vN v 34, vN v 43, vN v 58, vN v 46, vN v 52, ⟨?_, ?_, ?_, ?_, ?_, ?_⟩, ⟨by rw [ev 5 (by decide)]; exact m2, by rw [vN_of u34]; exact Nat.le_refl _, by rw [vN_of u43]; exact Nat.le_refl _, by rw [vN_of u58]; exact Nat.le_refl _, fun h9 => by rw [vN_of u46, if_neg (by omega)]; omega, fun h9 => by rw [vN_of u52, if_neg (by omega)]; omega⟩, fun k hk => ?_, fun k hk => ?_, fun k hk => ?_⟩
    · rw [pk 31 (by decide) (by decide), hφ]; exact d1
    · rw [pk 32 (by decide) (by decide), hφ]; exact d2
    · rw [pk 35 (by decide) (by decide), hφ]; exact d3
    · rw [pk 36 (by decide) (by decide), hφ]; exact d4
    · rw [pk 37 (by decide) (by decide), hφ]; exact d5
    · rw [pk 38 (by decide) (by decide), hφ]; exact d6
    · rw [hφ']; exact h44n k hk
    · rw [pk 59 (by decide) (by decide), hφ]; exact hV k hk
    · rw [pk 33 (by decide) (by decide)]
      have := (hI k hk).gr hg b3 b4 n43
      rw [hφ]
      exact this
  refine hA.ch hf (hF 90 (by decide) (by decide)) h300 ⟨by rw [vN_of u34]; exact m5, by rw [ev 13 (by decide)]; exact r5⟩ ⟨⟨fun x hx => ?_, ?_, ?_, ?_, ?_, ?_, ?_, ?_⟩, ?_⟩
  · by_cases hc : x.1 ∈ [30, 34, 43, 46, 47, 52, 53, 58, 62]
    · have q : ∀ x ∈ wB, x.1 ∈ [30, 34, 43, 46, 47, 52, 53, 58, 62] → x = (30, 24) ∨ x = (34, 245760) ∨ x = (43, 8192) ∨ x = (46, 24) ∨ x = (47, 16384) ∨ x = (52, 24) ∨ x = (53, 16) ∨ x = (58, 4096) := by decide
      have e46 : (v' 46).toInt = vN v' 46 := by rw [vN_of u46]; exact u46
      have e47 : (v' 47).toInt = vN v' 47 := by rw [vN_of u47]; exact u47
      have e52 : (v' 52).toInt = vN v' 52 := by rw [vN_of u52]; exact u52
      have e53 : (v' 53).toInt = vN v' 53 := by rw [vN_of u53]; exact u53
      rcases q x hx hc with e | e | e | e | e | e | e | e <;> subst e <;> dsimp only
      · rw [u30]; omega
      · rw [u34]; omega
      · rw [u43]; omega
      · rw [e46]; omega
      · rw [e47]; omega
      · rw [e52]; omega
      · rw [e53]; omega
      · rw [u58]; omega
    · rw [hv x.1 hc]
      exact w1 x hx
  · rw [hv 17 (by decide), hv 84 (by decide), hv 94 (by decide)]; exact w2
  · rw [ev 4 (by decide), ev 2 (by decide)]; exact w3
  · rw [ev 42 (by decide)]; exact w4
  · rw [ev 13 (by decide), ev 4 (by decide)]; exact w5
  · rw [vN_of u30]; omega
  · rw [vN_of u30]; omega
  · rw [vN_of u34, vN_of u30]; omega
  · show RX (fun k => F' (A k)) v' len DM
    rw [← hφ']
    refine ⟨fun mm9 hm9 => ?_, fun i hi => ?_, ?_, W5.no h62⟩
    · rw [ev 5 (by decide)] at hm9
      rw [ev 4 (by decide), ev 13 (by decide)]
      have hK : ∀ k, k ∈ [3, 6, 7, 8, 9, 10, 11, 12] → φ' k = φ k := fun k hk9 => by
        have q : ∀ k, k ∈ [3, 6, 7, 8, 9, 10, 11, 12] → k ∈ aRI ∧ k ∉ [44, 45, 51, 56] := by decide
        exact pk k (q k hk9).1 (q k hk9).2
      exact b2.ag ⟨fun _ _ => by rw [hK 3 (by decide)], fun _ _ => by rw [hK 6 (by decide), hK 7 (by decide)]; exact ⟨rfl, rfl⟩, fun _ _ => by rw [hK 8 (by decide), hK 9 (by decide)]; exact ⟨rfl, rfl⟩, fun _ _ => by rw [hK 10 (by decide)], fun _ _ => by rw [hK 11 (by decide), hK 12 (by decide)]; exact ⟨rfl, rfl⟩⟩ (Nat.le_refl _) (Nat.le_refl _) (Nat.le_refl _) hm9
    · rw [vN_of u30] at hi
      by_cases hi9 : i < vN v 30
      · exact (b3 i hi9).gr hi9 hg b3 b4 n43
      · have : i = vN v 30 := by omega
        subst this
        exact hiN
    · obtain ⟨a1, a2, a3, a4, a5, a6, a7⟩ := b4
      refine ⟨fun f hf9 => ?_, fun t ht => ?_, fun j hj => ?_, fun m9 hm9 => ?_, fun j hj => ?_, fun g hg9 => ?_, fun k hk9 => ?_⟩
      · rw [vN_of u43] at hf9
        rw [vN_of u30]
        by_cases hf8 : f < vN v 43
        · obtain ⟨i, b, e1, e2, e3, e4⟩ := a1 f hf8
          obtain ⟨y1, y2⟩ := hg.2.2.2.2.1 f hf8
          exact ⟨i, b, by rw [y1]; exact e1, by rw [y2]; exact e2, by omega, by rw [hg.im e3]; exact e4⟩
        · obtain ⟨y1, y2⟩ := h44n (f - vN v 43) (by omega)
          rw [show vN v 43 + (f - vN v 43) = f by omega] at y1 y2
          refine ⟨vN v 30, f - vN v 43, by rw [hφ']; exact y1, by rw [hφ']; exact y2, by omega, ?_⟩
          have : aV φ' 31 (vN v 30) = m := aV_of (by rw [pk 31 (by decide) (by decide), hφ]; exact d1)
          rw [this]
          omega
      · rw [pk 48 (by decide) (by decide), pk 49 (by decide) (by decide)]
        by_cases ht9 : t < vN v 46
        · obtain ⟨tf, tz, e1, e2, e3⟩ := a2 t ht9
          exact ⟨tf, tz, e1, e2, by omega⟩
        · have h40 : qt (DM m) 4 ≠ 0 := fun e => by
            rw [vN_of u46, if_pos e] at ht
            omega
          have et : t = vN v 46 := by omega
          obtain ⟨y1, tz, y2, y3⟩ := hT (by omega)
          subst et
          refine ⟨vN v 47, tz, by rw [hφ]; exact y1, by rw [hφ]; exact y2, ?_⟩
          rw [vN_of u47, if_neg h40, y2]
          omega
      · have y := h51 j
        rw [hφ']
        dsimp only
        rcases y with y | y
        · rw [y]
          have := a3 j hj
          rw [hφ] at this
          exact this.imp id (fun ⟨f, e1, e2⟩ => ⟨f, e1, e2.mo hg⟩)
        · exact .inl y
      · rw [pk 54 (by decide) (by decide)]
        by_cases hm8 : m9 < vN v 52
        · obtain ⟨pc, e1, e2⟩ := a4 m9 hm8
          exact ⟨pc, e1, by omega⟩
        · have h50 : qt (DM m) 5 ≠ 0 := fun e => by
            rw [vN_of u52, if_pos e] at hm9
            omega
          have et : m9 = vN v 52 := by omega
          obtain ⟨pc, y2, y3⟩ := hP (by omega)
          subst et
          refine ⟨pc, by rw [hφ]; exact y2, ?_⟩
          rw [vN_of u53, if_neg h50, y2]
          omega
      · rw [hφ']
        dsimp only
        rcases h56 j with y | y
        · rw [y]
          have := a5 j hj
          rw [hφ] at this
          exact this
        · exact y
      · rw [vN_of u58] at hg9
        rw [pk 59 (by decide) (by decide)]
        by_cases hg8 : g < vN v 58
        · exact a6 g hg8
        · have := hV (g - vN v 58) (by omega)
          rw [show vN v 58 + (g - vN v 58) = g by omega] at this
          rw [hφ]
          dsimp only
          rw [this]
          have hR := (hA.X m2).2.2
          obtain ⟨rv, -, -⟩ := hR.va (g := iM (DM m) 3 + (g - vN v 58)) (by omega)
          obtain ⟨y1, y2, y3⟩ := ub_ty (hR.1 (vpo (DM m) (iM (DM m) 3 + (g - vN v 58)))) rv.1.1 rv.1.2
          unfold vty
          rw [y1]
          exact ⟨y2, y3⟩
      · rw [pk 39 (by decide) (by decide), pk 40 (by decide) (by decide), pk 41 (by decide) (by decide), ev 4 (by decide)]
        rw [ev 42 (by decide)] at hk9
        obtain ⟨nf, ns, no, e1, e2, e3, e4, e5⟩ := a7 k hk9
        exact ⟨nf, ns, no, e1, e2, e3, e4, by rw [vN_of u30]; omega⟩
theorem m_settle {x1 x2 : Int32} (hA : rA own mm A h F v DM len rl K) (hN : nwI A F v DM rl m) (h62 : v 62 = 0) (h1 : x1.toInt = vN v 30) (h2 : x2.toInt = m) (hQ : ∀ (F' : Nat → Nat → Int32) (v' : Nat → Int32), f0 own h F h F' → (∀ k, (∃ e ∈ aL, e.1 = k) → k ∉ [44, 45, 51, 56] → F' (A k) = F (A k)) → (∀ k, k ∉ [30, 34, 43, 46, 47, 52, 53, 58] → v' k = v k) → vN v' 30 = vN v 30 + 1 → rA own mm A h F' v' DM len rl K → stX A F v (DM m) F' v' → Q (mH h F' mm v')) : w_M_settle mm x1 x2 (mH h F mm v) Q := by
  have hB := hA.B
  obtain ⟨⟨m1, m2, m3, m4, m5, m6⟩, ⟨d1, d2, d3, d4, d5, d6⟩, hT, hP, hI, hV⟩ := id hN
  have hX := hA.X m2
  obtain ⟨r1, r2, r3, r4, r5⟩ := hA.2.2.1
  obtain ⟨n43, n43'⟩ := hA.n (k := 43) (b := 8192) (by decide)
  obtain ⟨n58, n58'⟩ := hA.n (k := 58) (b := 4096) (by decide)
  obtain ⟨n34, n34'⟩ := hA.n (k := 34) (b := 245760) (by decide)
  obtain ⟨n46, n46'⟩ := hA.n (k := 46) (b := 24) (by decide)
  obtain ⟨n47, n47'⟩ := hA.n (k := 47) (b := 16384) (by decide)
  obtain ⟨n52, n52'⟩ := hA.n (k := 52) (b := 24) (by decide)
  obtain ⟨n53, n53'⟩ := hA.n (k := 53) (b := 16) (by decide)
  obtain ⟨n30, n30'⟩ := hA.n (k := 30) (b := 24) (by decide)
  obtain ⟨w1, w2, w3, w4, w5, w6, w7, w8⟩ := hA.W1
  obtain ⟨a44, a44', a44n, a44m⟩ := hB.kx (k := 44) (kd := 102) (n := 8192) (by decide) (by decide)
  obtain ⟨a45, a45', a45n, a45m⟩ := hB.kx (k := 45) (kd := 102) (n := 8192) (by decide) (by decide)
  obtain ⟨a49, a49', a49n, a49m⟩ := hB.kx (k := 49) (kd := 102) (n := 24) (by decide) (by decide)
  obtain ⟨a51, a51', a51n, a51m⟩ := hB.kx (k := 51) (kd := 102) (n := 16384) (by decide) (by decide)
  obtain ⟨a54, a54', a54n, a54m⟩ := hB.kx (k := 54) (kd := 102) (n := 24) (by decide) (by decide)
  obtain ⟨a56, a56', a56n, a56m⟩ := hB.kx (k := 56) (kd := 102) (n := 384) (by decide) (by decide)
  have X9 : ∀ G : Nat → Nat → Int32, (∀ k, (∃ e ∈ aL, e.1 = k) → k ∉ [44, 45, 51, 56] → G (A k) = F (A k)) → mX own mm A h G m (DM m) := fun G hG => hX.upk (fun k hk => hG k ((by decide : ∀ k, k ∈ [3, 6, 7, 8, 9, 10, 11] → ∃ e ∈ aL, e.1 = k) k hk) ((by decide : ∀ k, k ∈ [3, 6, 7, 8, 9, 10, 11] → k ∉ [44, 45, 51, 56]) k hk))
  have bq : ∀ s, s < 12 → qt (DM m) s ≤ 12000 := fun s hs => (hX.2.2.2.2.2.1 s hs).1
  -- what has been written so far
  have hne : ∀ k k', k ∈ [44, 45, 51, 56] → k' ∈ [44, 45, 51, 56] → k ≠ k' → A k ≠ A k' := fun k k' hk hk' h9 => hB.ne ((by decide : ∀ k, k ∈ [44, 45, 51, 56] → ∃ e ∈ aL, e.1 = k) k hk) ((by decide : ∀ k, k ∈ [44, 45, 51, 56] → ∃ e ∈ aL, e.1 = k) k' hk') h9
  obtain ⟨TZ, hTZ⟩ : ∃ TZ : Nat, TZ = if qt (DM m) 4 = 0 then 0 else (F (A 49) (vN v 46)).toInt.toNat := ⟨_, rfl⟩
  obtain ⟨PC, hPC⟩ : ∃ PC : Nat, PC = if qt (DM m) 5 = 0 then 0 else (F (A 54) (vN v 52)).toInt.toNat := ⟨_, rfl⟩
  obtain ⟨S, hS⟩ : ∃ S : Nat → Nat → Nat → (Nat → Nat → Int32) → Prop, S = fun n t p G => stW A F v n t p G ∧ f0 own h F h G ∧ (∀ k, (∃ e ∈ aL, e.1 = k) → k ∉ [44, 45, 51, 56] → G (A k) = F (A k)) ∧ (∀ a, own a = 300 → G a = F a) ∧ (∀ f, f < vN v 43 → G (A 44) f = F (A 44) f ∧ G (A 45) f = F (A 45) f) ∧ (∀ j, G (A 51) j = F (A 51) j ∨ G (A 51) j = 0) ∧ (∀ j, G (A 56) j = F (A 56) j ∨ (0 ≤ (G (A 56) j).toInt ∧ (G (A 56) j).toInt ≤ 15)) := ⟨_, rfl⟩
  have SU : ∀ {n t p : Nat} (n' t' p' : Nat) (G : Nat → Nat → Int32) (c j : Nat) (x : Int32), S n t p G → (stW A F v n t p G → stW A F v n' t' p' (va_up G (A c) (va_up (G (A c)) j x))) → c ∈ [44, 45, 51, 56] → (c = 44 ∨ c = 45 → vN v 43 ≤ j) → (c = 51 → x = 0) → (c = 56 → 0 ≤ x.toInt ∧ x.toInt ≤ 15) → S n' t' p' (va_up G (A c) (va_up (G (A c)) j x)) := by
    intro n t p n' t' p' G c j x hG hW hc c1 c2 c3
    rw [hS] at hG ⊢
    obtain ⟨g0, g1, g2, g3, g4, g5, g6⟩ := hG
    have hcA : ∃ e ∈ aL, e.1 = c := (by decide : ∀ k, k ∈ [44, 45, 51, 56] → ∃ e ∈ aL, e.1 = k) c hc
    have oc : own (A c) = 61 + c := hB.o hcA
    have at_ : ∀ k, (∃ e ∈ aL, e.1 = k) → ∀ P : Int32 → Prop, ∀ i, P (G (A k) i) → (k = c → i = j → P x) → P (va_up G (A c) (va_up (G (A c)) j x) (A k) i) := fun k hk P i p1 p2 => by
      by_cases h9 : k = c
      · subst h9
        rw [xh_up, if_pos rfl, xh_up]
        split
        · exact p2 rfl (by assumption)
        · exact p1
      · rw [xh_up, if_neg (hB.ne hk hcA h9)]
        exact p1
    refine ⟨hW g0, g1.tr (f0.aw (by rw [oc]; omega)), fun k hk h9 => ?_, fun a ha => ?_, fun f hf => ⟨?_, ?_⟩, fun i => ?_, fun i => ?_⟩
    · rw [xh_up, if_neg (hB.ne hk hcA (fun e => h9 (e ▸ hc)))]
      exact g2 k hk h9
    · have : c ≤ 56 := (by decide : ∀ k, k ∈ [44, 45, 51, 56] → k ≤ 56) c hc
      rw [xh_up, if_neg (fun e => by rw [e, oc] at ha; omega)]
      exact g3 a ha
    · exact at_ 44 (by decide) (fun y => y = F (A 44) f) f (g4 f hf).1 (fun e e2 => by have := c1 (.inl e.symm); omega)
    · exact at_ 45 (by decide) (fun y => y = F (A 45) f) f (g4 f hf).2 (fun e e2 => by have := c1 (.inr e.symm); omega)
    · exact at_ 51 (by decide) (fun y => y = F (A 51) i ∨ y = 0) i (g5 i) (fun e _ => .inr (c2 e.symm))
    · exact at_ 56 (by decide) (fun y => y = F (A 56) i ∨ (0 ≤ y.toInt ∧ y.toInt ≤ 15)) i (g6 i) (fun e _ => .inr (c3 e.symm))
  have SA : ∀ {n t p : Nat} (G : Nat → Nat → Int32), S n t p G → (∀ k, (∃ e ∈ aL, e.1 = k) → k ∉ [44, 45, 51, 56] → G (A k) = F (A k)) := fun G hG => by
    rw [hS] at hG
    exact hG.2.2.1
  -- the end
  have L226 : ∀ (G : Nat → Nat → Int32) (u : Nat → Int32), S (qt (DM m) 3) TZ PC G → (∀ k, k < qt (DM m) 3 → (G (A 44) (vN v 43 + k)).toInt = vN v 30 ∧ (G (A 45) (vN v 43 + k)).toInt = k) → (∀ k, k ∉ [34, 43, 46, 47, 52, 53, 58] → u k = v k) → (u 34).toInt = (vN v 34 + qt (DM m) 2 : Nat) → (u 43).toInt = (vN v 43 + qt (DM m) 3 : Nat) → (u 58).toInt = (vN v 58 + qt (DM m) 6 : Nat) → (u 46).toInt = (vN v 46 + (if qt (DM m) 4 = 0 then 0 else 1) : Nat) → (u 47).toInt = (vN v 47 + (if qt (DM m) 4 = 0 then 0 else (F (A 49) (vN v 46)).toInt.toNat) : Nat) → (u 52).toInt = (vN v 52 + (if qt (DM m) 5 = 0 then 0 else 1) : Nat) → (u 53).toInt = (vN v 53 + (if qt (DM m) 5 = 0 then 0 else (F (A 54) (vN v 52)).toInt.toNat) : Nat) → w_M_settle_L226 Q mm (mH h G mm u) := by
    intro G u hG g44 hu e34 e43 e58 e46 e47 e52 e53
    unfold w_M_settle_L226
    rw [mH_i]
    refine ⟨hB.2.1, fun h2' e2' => ?_⟩
    rw [mH_I] at e2'
    subst e2'
    have e30 : (u 30 + 1).toInt = (vN v 30 + 1 : Nat) := by rw [hu 30 (by decide)]; exact z_inc n30 (by omega)
    have uo : ∀ k, k ≠ 30 → va_up u 30 (u 30 + 1) k = u k := fun k hk => by rw [xh_up, if_neg hk]
    rw [hS] at hG
    obtain ⟨g0, g1, g2, g3, g4, g5, g6⟩ := hG
    rw [hTZ, hPC] at g0
    have hvv : ∀ k, k ∉ [30, 34, 43, 46, 47, 52, 53, 58] → va_up u 30 (u 30 + 1) k = v k := fun k hk => by
      rw [uo k (fun e => hk (by rw [e]; decide))]
      exact hu k (fun h9 => hk (List.mem_cons_of_mem _ h9))
    refine hQ G _ g1 g2 hvv (vN_of (by rw [xh_up, if_pos rfl]; exact e30)) (hA.st hN ?_ g1 g2 g3 (fun k hk => ?_) ?_ ?_ ?_ ?_ ?_ ?_ ?_ ?_ g4 g44 g5 g6) ⟨g0, g44, by rw [uo 34 (by decide)]; exact e34, by rw [uo 43 (by decide)]; exact e43, by rw [uo 58 (by decide)]; exact e58, by rw [uo 46 (by decide)]; exact e46, by rw [uo 47 (by decide)]; exact e47, by rw [uo 52 (by decide)]; exact e52, by rw [uo 53 (by decide)]; exact e53⟩
    · rw [uo 62 (by decide), hu 62 (by decide)]; exact h62
    · exact hvv k (fun h9 => hk ((by decide : ∀ k, k ∈ [30, 34, 43, 46, 47, 52, 53, 58] → k ∈ [30, 34, 43, 46, 47, 52, 53, 58, 62]) k h9))
    · rw [xh_up, if_pos rfl]; exact e30
    · rw [uo 34 (by decide)]; exact e34
    · rw [uo 43 (by decide)]; exact e43
    · rw [uo 58 (by decide)]; exact e58
    · rw [uo 46 (by decide)]; exact e46
    · rw [uo 47 (by decide)]; exact e47
    · rw [uo 52 (by decide)]; exact e52
    · rw [uo 53 (by decide)]; exact e53
  -- pages
  have L158 : ∀ (G : Nat → Nat → Int32) (u : Nat → Int32), S (qt (DM m) 3) TZ 0 G → (∀ k, k < qt (DM m) 3 → (G (A 44) (vN v 43 + k)).toInt = vN v 30 ∧ (G (A 45) (vN v 43 + k)).toInt = k) → (∀ k, k ∉ [34, 43, 46, 47, 58] → u k = v k) → (u 34).toInt = (vN v 34 + qt (DM m) 2 : Nat) → (u 43).toInt = (vN v 43 + qt (DM m) 3 : Nat) → (u 58).toInt = (vN v 58 + qt (DM m) 6 : Nat) → (u 46).toInt = (vN v 46 + (if qt (DM m) 4 = 0 then 0 else 1) : Nat) → (u 47).toInt = (vN v 47 + (if qt (DM m) 4 = 0 then 0 else (F (A 49) (vN v 46)).toInt.toNat) : Nat) → w_M_settle_L158 Q mm x2 (mH h G mm u) := by
    intro G u hG g44 hu e34 e43 e58 e46 e47
    unfold w_M_settle_L158
    have XG := X9 G (SA G hG)
    refine ⟨hB.2.1, m_manyOf XG h2 (s := 5) rfl (by decide) (fun r hr _ => ⟨fun hle => ?_, fun hle => ?_⟩)⟩
    · rw [z_le, hr] at hle
      simp only [Int32.reduceToInt] at hle
      have e0 : qt (DM m) 5 = 0 := by omega
      exact L226 G u (by rw [hPC, if_pos e0]; exact hG) g44 (fun k hk => hu k (fun h9 => hk ((by decide : ∀ k, k ∈ [34, 43, 46, 47, 58] → k ∈ [34, 43, 46, 47, 52, 53, 58]) k h9))) e34 e43 e58 e46 e47 (by rw [if_pos e0, hu 52 (by decide)]; exact n52) (by rw [if_pos e0, hu 53 (by decide)]; exact n53)
    · rw [z_le, hr] at hle
      simp only [Int32.reduceToInt] at hle
      have e0 : qt (DM m) 5 ≠ 0 := by omega
      obtain ⟨pc, pc1, pc2⟩ := hP (by omega)
      have ePC : PC = pc := by rw [hPC, if_neg e0, pc1, Int.toNat_natCast]
      have u52 : u 52 = v 52 := hu 52 (by decide)
      have key : ∀ (nf k : Nat) (x3 : Int32) (G2 : Nat → Nat → Int32) (u2 : Nat → Int32), pc - k ≤ nf → x3.toInt = k → k ≤ pc → S (qt (DM m) 3) TZ k G2 → (∀ j, G2 (A 44) j = G (A 44) j ∧ G2 (A 45) j = G (A 45) j) → (∀ j, j ≠ 53 → u2 j = u j) → (u2 53).toInt = (vN v 53 + k : Nat) → w_M_settle_L169 Q (nf + 1) mm x3 (mH h G2 mm u2) := by
        have out : ∀ (G2 : Nat → Nat → Int32) (u2 : Nat → Int32), S (qt (DM m) 3) TZ pc G2 → (∀ j, G2 (A 44) j = G (A 44) j ∧ G2 (A 45) j = G (A 45) j) → (∀ j, j ≠ 53 → u2 j = u j) → (u2 53).toInt = (vN v 53 + pc : Nat) → ∀ h6 : xb_H, h6 = xb_I (mH h G2 mm u2) mm 52 (u2 52 + 1) → w_M_settle_L226 Q mm h6 := by
          intro G2 u2 hG2 hG4 hu2 e53 h6 e6
          rw [mH_I] at e6
          subst e6
          have uo : ∀ k, k ≠ 52 → va_up u2 52 (u2 52 + 1) k = u2 k := fun k hk => by rw [xh_up, if_neg hk]
          refine L226 G2 _ (by rw [ePC]; exact hG2) (fun k hk => by rw [(hG4 _).1, (hG4 _).2]; exact g44 k hk) (fun k hk => ?_) ?_ ?_ ?_ ?_ ?_ ?_ ?_
          · have q : ∀ j, j ∈ [34, 43, 46, 47, 52, 53, 58] → k ≠ j := fun j hj e => hk (e ▸ hj)
            rw [uo k (q 52 (by decide)), hu2 k (q 53 (by decide))]
            exact hu k (fun h9 => hk ((by decide : ∀ k, k ∈ [34, 43, 46, 47, 58] → k ∈ [34, 43, 46, 47, 52, 53, 58]) k h9))
          · rw [uo 34 (by decide), hu2 34 (by decide)]; exact e34
          · rw [uo 43 (by decide), hu2 43 (by decide)]; exact e43
          · rw [uo 58 (by decide), hu2 58 (by decide)]; exact e58
          · rw [uo 46 (by decide), hu2 46 (by decide)]; exact e46
          · rw [uo 47 (by decide), hu2 47 (by decide)]; exact e47
          · rw [xh_up, if_pos rfl, hu2 52 (by decide), u52, if_neg e0]; exact z_inc n52 (by omega)
          · rw [uo 53 (by decide), if_neg e0, pc1]; exact e53
        intro nf
        induction nf with
        | zero =>
          intro k x3 G2 u2 hn h3 hk hG2 hG4 hu2 e53
          have e54 : (G2 (A 54) (vN v 52)).toInt = pc := by rw [SA G2 hG2 54 (by decide) (by decide)]; exact pc1
          have c52 : (u2 52).toNatClampNeg = vN v 52 := by rw [hu2 52 (by decide), u52, z_cl, n52]; omega
          have ek : k = pc := by omega
          subst ek
          unfold w_M_settle_L169
          rw [mH_i]
          refine ⟨hB.2.1, A 54, a54, a54', ?_, fun _ => out G2 u2 hG2 hG4 hu2 e53, fun hle9 => ?_⟩
          · rw [z_in, hu2 52 (by decide), u52, n52]
            show _ ∧ _ < ((xb_n h (A 54) : Nat) : Int)
            omega
          · rw [mH_o a54m, c52, z_le, e54, h3] at hle9
            omega
        | succ nf ih =>
          intro k x3 G2 u2 hn h3 hk hG2 hG4 hu2 e53
          have e54 : (G2 (A 54) (vN v 52)).toInt = pc := by rw [SA G2 hG2 54 (by decide) (by decide)]; exact pc1
          have c52 : (u2 52).toNatClampNeg = vN v 52 := by rw [hu2 52 (by decide), u52, z_cl, n52]; omega
          have t52 : (u2 52).toInt = vN v 52 := by rw [hu2 52 (by decide), u52]; exact n52
          unfold w_M_settle_L169
          rw [mH_i]
          refine ⟨hB.2.1, A 54, a54, a54', ?_, fun hle9 => ?_, fun hle9 => ?_⟩
          · rw [z_in, t52]
            show _ ∧ _ < ((xb_n h (A 54) : Nat) : Int)
            omega
          · rw [mH_o a54m, c52, z_le, e54, h3] at hle9
            have ek : k = pc := by omega
            subst ek
            exact out G2 u2 hG2 hG4 hu2 e53
          · rw [mH_o a54m, c52, z_le, e54, h3] at hle9
            have e16 : (16 * u2 52 + x3).toInt = (16 * vN v 52 + k : Nat) := z_16 t52 h3 (by omega) (by omega)
            refine ⟨A 56, a56, a56', ?_, fun h10 e10 h11 e11 => ?_⟩
            · rw [z_in, e16]
              show _ ∧ _ < ((xb_n h (A 56) : Nat) : Int)
              omega
            · rw [mH_A a56m, z_cl, e16, Int.toNat_natCast] at e10
              subst e10
              rw [mH_i, mH_I] at e11
              subst e11
              refine ih (k + 1) (x3 + 1) _ _ (by omega) (z_inc h3 (by omega)) (by omega) (SU _ _ (k + 1) G2 56 _ _ hG2 (fun g0 => g0.w6 hne e53) (by decide) (fun h9 => by omega) (fun h9 => by omega) (fun _ => by rw [e53]; omega)) (fun j => ?_) (fun j hj => ?_) ?_
              · rw [xh_up, if_neg (hB.ne (by decide) (by decide) (by decide)), xh_up, if_neg (hB.ne (by decide) (by decide) (by decide))]
                exact hG4 j
              · rw [xh_up, if_neg hj]; exact hu2 j hj
              · have e531 := z_inc e53 (show vN v 53 + k ≤ 1000000 by omega)
                rw [xh_up, if_pos rfl]
                exact e531
      exact ⟨pc + 1, key pc 0 0 G u (by omega) rfl (by omega) hG (fun _ => ⟨rfl, rfl⟩) (fun _ _ => rfl) (by rw [hu 53 (by decide)]; exact n53)⟩
  -- functions, then elements
  have L2 : ∀ (nf k : Nat) (x3 : Int32) (G : Nat → Nat → Int32), qt (DM m) 3 - k ≤ nf → x3.toInt = k → k ≤ qt (DM m) 3 → S k 0 0 G → (∀ j, j < k → (G (A 44) (vN v 43 + j)).toInt = vN v 30 ∧ (G (A 45) (vN v 43 + j)).toInt = j) → w_M_settle_L2 Q (nf + 1) mm x1 x2 x3 (mH h G mm v) := by
    have out : ∀ (G : Nat → Nat → Int32), S (qt (DM m) 3) 0 0 G → (∀ j, j < qt (DM m) 3 → (G (A 44) (vN v 43 + j)).toInt = vN v 30 ∧ (G (A 45) (vN v 43 + j)).toInt = j) → w_M_manyOf mm x2 3 (mH h G mm v) (fun (r6 : Int32) (h5 : xb_H) => xb_ext (mH h G mm v) h5 → ∀ h7 : xb_H, h7 = xb_I h5 mm 43 ((xb_i (mH h G mm v) mm 43) + r6) → w_M_manyOf mm x2 6 h7 (fun (r9 : Int32) (h8 : xb_H) => xb_ext h7 h8 → ∀ h10 : xb_H, h10 = xb_I h8 mm 58 ((xb_i h7 mm 58) + r9) → w_M_manyOf mm x2 2 h10 (fun (r12 : Int32) (h11 : xb_H) => xb_ext h10 h11 → ∀ h13 : xb_H, h13 = xb_I h11 mm 34 ((xb_i h10 mm 34) + r12) → w_M_manyOf mm x2 4 h13 (fun (r15 : Int32) (h14 : xb_H) => xb_ext h13 h14 → ((r15 ≤ (0 : Int32) → w_M_settle_L158 Q mm x2 h14) ∧ (¬ r15 ≤ (0 : Int32) → (∃ n8 : Nat, w_M_settle_L99 Q n8 mm x2 0 h14))))))) := by
      intro G hG g44
      have XG := X9 G (SA G hG)
      refine m_manyOf XG h2 (s := 3) rfl (by decide) (fun r6 e6 _ h7 e7 => ?_)
      rw [mH_i, mH_I] at e7
      subst e7
      refine m_manyOf XG h2 (s := 6) rfl (by decide) (fun r9 e9 _ h10 e10 => ?_)
      rw [mH_i, mH_I] at e10
      subst e10
      refine m_manyOf XG h2 (s := 2) rfl (by decide) (fun r12 e12 _ h13 e13 => ?_)
      rw [mH_i, mH_I] at e13
      subst e13
      refine m_manyOf XG h2 (s := 4) rfl (by decide) (fun r15 e15 _ => ?_)
      rw [xh_up v, if_neg (show (58 : Nat) ≠ 43 by decide), xh_up (va_up v 43 _), if_neg (show (34 : Nat) ≠ 58 by decide), xh_up v, if_neg (show (34 : Nat) ≠ 43 by decide)]
      obtain ⟨u, hu⟩ : ∃ u, u = va_up (va_up (va_up v 43 (v 43 + r6)) 58 (v 58 + r9)) 34 (v 34 + r12) := ⟨_, rfl⟩
      rw [← hu]
      have uo : ∀ k, k ∉ [34, 43, 58] → u k = v k := fun k hk => by
        have q : ∀ j, j ∈ [34, 43, 58] → k ≠ j := fun j hj e => hk (e ▸ hj)
        rw [hu, xh_up, if_neg (q 34 (by decide)), xh_up, if_neg (q 58 (by decide)), xh_up, if_neg (q 43 (by decide))]
      have b3 := bq 3 (by decide)
      have b6 := bq 6 (by decide)
      have b2 := bq 2 (by decide)
      have u34 : (u 34).toInt = (vN v 34 + qt (DM m) 2 : Nat) := by rw [hu, xh_up, if_pos rfl]; exact z_ad2 n34 e12 (by omega) (by omega)
      have u43 : (u 43).toInt = (vN v 43 + qt (DM m) 3 : Nat) := by rw [hu, xh_up, if_neg (by decide), xh_up, if_neg (by decide), xh_up, if_pos rfl]; exact z_ad2 n43 e6 (by omega) (by omega)
      have u58 : (u 58).toInt = (vN v 58 + qt (DM m) 6 : Nat) := by rw [hu, xh_up, if_neg (by decide), xh_up, if_pos rfl]; exact z_ad2 n58 e9 (by omega) (by omega)
      refine ⟨fun hle => ?_, fun hle => ?_⟩
      · rw [z_le, e15] at hle
        simp only [Int32.reduceToInt] at hle
        have e0 : qt (DM m) 4 = 0 := by omega
        exact L158 G u (by rw [hTZ, if_pos e0]; exact hG) g44 (fun k hk => uo k (fun h9 => hk ((by decide : ∀ k, k ∈ [34, 43, 58] → k ∈ [34, 43, 46, 47, 58]) k h9))) u34 u43 u58 (by rw [if_pos e0, uo 46 (by decide)]; exact n46) (by rw [if_pos e0, uo 47 (by decide)]; exact n47)
      · rw [z_le, e15] at hle
        simp only [Int32.reduceToInt] at hle
        have e0 : qt (DM m) 4 ≠ 0 := by omega
        obtain ⟨t1, tz, t2, t3⟩ := hT (by omega)
        have eTZ : TZ = tz := by rw [hTZ, if_neg e0, t2, Int.toNat_natCast]
        have c46 : (u 46).toNatClampNeg = vN v 46 := by rw [uo 46 (by decide), z_cl, n46]; omega
        have key : ∀ (nf k : Nat) (x3 : Int32) (G2 : Nat → Nat → Int32), tz - k ≤ nf → x3.toInt = k → k ≤ tz → S (qt (DM m) 3) k 0 G2 → (∀ j, G2 (A 44) j = G (A 44) j ∧ G2 (A 45) j = G (A 45) j) → w_M_settle_L99 Q (nf + 1) mm x2 x3 (mH h G2 mm u) := by
          have inn : vp_in (u 46) (xb_n (mH h G mm u) (A 49)) := by
            rw [z_in, uo 46 (by decide), n46]
            show _ ∧ _ < ((xb_n h (A 49) : Nat) : Int)
            omega
          have out2 : ∀ (G2 : Nat → Nat → Int32), S (qt (DM m) 3) tz 0 G2 → (∀ j, G2 (A 44) j = G (A 44) j ∧ G2 (A 45) j = G (A 45) j) → ∃ b6 : Nat, (xb_r (mH h G2 mm u) mm 49) = some b6 ∧ xb_k (mH h G2 mm u) b6 = 102 ∧ vp_in (u 46) (xb_n (mH h G2 mm u) b6) ∧ ∀ h9 : xb_H, h9 = xb_I (mH h G2 mm u) mm 47 ((u 47) + (xb_i (mH h G2 mm u) b6 (Int32.toNatClampNeg (u 46)))) → ∀ h10 : xb_H, h10 = xb_I h9 mm 46 ((xb_i h9 mm 46) + 1) → w_M_settle_L158 Q mm x2 h10 := by
            intro G2 hG2 hG4
            have e49 : (G2 (A 49) (vN v 46)).toInt = tz := by rw [SA G2 hG2 49 (by decide) (by decide)]; exact t2
            refine ⟨A 49, a49, a49', inn, fun h9 e9' h10 e10' => ?_⟩
            rw [mH_o a49m, c46, mH_I] at e9'
            subst e9'
            rw [mH_i, mH_I] at e10'
            subst e10'
            refine L158 G2 _ (by rw [eTZ]; exact hG2) (fun k hk => by rw [(hG4 _).1, (hG4 _).2]; exact g44 k hk) (fun k hk => ?_) ?_ ?_ ?_ ?_ ?_
            · have q : ∀ j, j ∈ [34, 43, 46, 47, 58] → k ≠ j := fun j hj e => hk (e ▸ hj)
              rw [xh_up, if_neg (q 46 (by decide)), xh_up, if_neg (q 47 (by decide))]
              exact uo k (fun h9 => hk ((by decide : ∀ k, k ∈ [34, 43, 58] → k ∈ [34, 43, 46, 47, 58]) k h9))
            · rw [xh_up, if_neg (by decide), xh_up, if_neg (by decide)]; exact u34
            · rw [xh_up, if_neg (by decide), xh_up, if_neg (by decide)]; exact u43
            · rw [xh_up, if_neg (by decide), xh_up, if_neg (by decide)]; exact u58
            · rw [xh_up, if_pos rfl, xh_up, if_neg (by decide), uo 46 (by decide), if_neg e0]; exact z_inc n46 (by omega)
            · rw [xh_up, if_neg (by decide), xh_up, if_pos rfl, uo 47 (by decide), if_neg e0, t2]
              exact z_ad2 n47 e49 (by omega) (by omega)
          intro nf
          induction nf with
          | zero =>
            intro k x3 G2 hn h3 hk hG2 hG4
            have e49 : (G2 (A 49) (vN v 46)).toInt = tz := by rw [SA G2 hG2 49 (by decide) (by decide)]; exact t2
            unfold w_M_settle_L99
            rw [mH_i]
            refine ⟨hB.2.1, A 49, a49, a49', inn, fun _ => out2 G2 (by rw [show tz = k by omega]; exact hG2) hG4, fun hle9 => ?_⟩
            rw [mH_o a49m, c46, z_le, e49, h3] at hle9
            omega
          | succ nf ih =>
            intro k x3 G2 hn h3 hk hG2 hG4
            have e49 : (G2 (A 49) (vN v 46)).toInt = tz := by rw [SA G2 hG2 49 (by decide) (by decide)]; exact t2
            unfold w_M_settle_L99
            rw [mH_i]
            refine ⟨hB.2.1, A 49, a49, a49', inn, fun hle9 => ?_, fun hle9 => ?_⟩
            · rw [mH_o a49m, c46, z_le, e49, h3] at hle9
              exact out2 G2 (by rw [show tz = k by omega]; exact hG2) hG4
            rw [mH_o a49m, c46, z_le, e49, h3] at hle9
            have e47 : (u 47 + x3).toInt = (vN v 47 + k : Nat) := by rw [uo 47 (by decide)]; exact z_ad2 n47 h3 (by omega) (by omega)
            refine ⟨A 51, a51, a51', ?_, fun h14 e14 => ?_⟩
            · rw [z_in, e47]
              show _ ∧ _ < ((xb_n h (A 51) : Nat) : Int)
              omega
            · rw [mH_A a51m, z_cl, e47, Int.toNat_natCast] at e14
              subst e14
              refine ih (k + 1) (x3 + 1) _ (by omega) (z_inc h3 (by omega)) (by omega) (SU _ (k + 1) _ G2 51 _ _ hG2 (fun g0 => g0.w1 hne) (by decide) (fun h9 => by omega) (fun _ => rfl) (fun h9 => by omega)) (fun j => ?_)
              rw [xh_up, if_neg (hB.ne (by decide) (by decide) (by decide)), xh_up, if_neg (hB.ne (by decide) (by decide) (by decide))]
              exact hG4 j
        exact ⟨tz + 1, key tz 0 0 G (by omega) rfl (by omega) hG (fun _ => ⟨rfl, rfl⟩)⟩
    intro nf
    induction nf with
    | zero =>
      intro k x3 G hn h3 hk hG g44
      unfold w_M_settle_L2
      refine ⟨hB.2.1, m_manyOf (X9 G (SA G hG)) h2 (s := 3) rfl (by decide) (fun r hr _ => ⟨fun _ => out G (by rw [show qt (DM m) 3 = k by omega]; exact hG) (fun j hj => g44 j (by omega)), fun hle => ?_⟩)⟩
      rw [z_le, hr, h3] at hle
      omega
    | succ nf ih =>
      intro k x3 G hn h3 hk hG g44
      unfold w_M_settle_L2
      refine ⟨hB.2.1, m_manyOf (X9 G (SA G hG)) h2 (s := 3) rfl (by decide) (fun r hr _ => ⟨fun hle => ?_, fun hle => ?_⟩)⟩
      · rw [z_le, hr, h3] at hle
        exact out G (by rw [show qt (DM m) 3 = k by omega]; exact hG) (fun j hj => g44 j (by omega))
      · rw [z_le, hr, h3] at hle
        have e43 : (v 43 + x3).toInt = (vN v 43 + k : Nat) := z_ad2 n43 h3 (by omega) (by omega)
        have n4445 : A 44 ≠ A 45 := hB.ne (by decide) (by decide) (by decide)
        rw [mH_i]
        refine ⟨A 44, a44, a44', ?_, fun h20 e20 => ?_⟩
        · rw [z_in, e43]
          show _ ∧ _ < ((xb_n h (A 44) : Nat) : Int)
          omega
        rw [mH_A a44m, z_cl, e43, Int.toNat_natCast] at e20
        subst e20
        rw [mH_i]
        refine ⟨A 45, a45, a45', ?_, fun h24 e24 => ?_⟩
        · rw [z_in, e43]
          show _ ∧ _ < ((xb_n h (A 45) : Nat) : Int)
          omega
        rw [mH_A a45m, z_cl, e43, Int.toNat_natCast] at e24
        subst e24
        have S1 := SU (k + 1) 0 0 G 44 (vN v 43 + k) x1 hG (fun g0 => g0.w4 hne (by decide) (by omega) (by omega) (by omega)) (by decide) (fun _ => by omega) (fun h9 => by omega) (fun h9 => by omega)
        refine ih (k + 1) (x3 + 1) _ (by omega) (z_inc h3 (by omega)) (by omega) (SU (k + 1) 0 0 _ 45 (vN v 43 + k) x3 S1 (fun g0 => g0.w4 hne (by decide) (by omega) (by omega) (by omega)) (by decide) (fun _ => by omega) (fun h9 => by omega) (fun h9 => by omega)) (fun j hj => ?_)
        rw [xh_up _ (A 45) _ (A 44), if_neg n4445, xh_up G (A 44) _ (A 44), if_pos rfl, xh_up _ (A 45) _ (A 45), if_pos rfl, xh_up G (A 44) _ (A 45), if_neg (Ne.symm n4445), xh_up, xh_up]
        by_cases h9 : j = k
        · subst h9
          rw [if_pos rfl, if_pos rfl]
          exact ⟨h1, h3⟩
        · rw [if_neg (by omega), if_neg (by omega)]
          exact g44 j (by omega)
  unfold w_M_settle
  refine ⟨qt (DM m) 3 + 1, L2 (qt (DM m) 3) 0 0 F (by omega) rfl (by omega) ?_ (fun j hj => by omega)⟩
  rw [hS]
  exact ⟨stW.rf A F v, f0.rf, fun _ _ _ => rfl, fun _ _ => rfl, fun _ _ => ⟨rfl, rfl⟩, fun _ => .inl rfl, fun _ => .inl rfl⟩
end MN5

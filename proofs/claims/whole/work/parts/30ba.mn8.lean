-- the reference: instantiate
section MN8
variable {own own' : Nat → Nat} {mm m i ip k f t n : Nat} {A A' : Nat → Nat} {h h' h2 : xb_H} {F F' F2 : Nat → Nat → Int32} {v v' v2 v0 cb : Nat → Int32} {D : zM} {DM : Nat → zM} {len rl K rc rs bc bs E : Nat} {Qr : Int32 → xb_H → Nat → Nat → Prop}
/-- an entry of an array that an instance in the making writes -/
theorem rA.up1 {c j : Nat} {x : Int32} (hA : rA own mm A h F v DM len rl K) (hc : c ∈ [31, 32, 33, 35, 36, 37, 38, 48, 49, 54]) (hj : ∀ e ∈ [(31, 30), (32, 30), (35, 30), (36, 30), (37, 30), (38, 30), (33, 34), (48, 46), (49, 46), (54, 52)], e.1 = c → vN v e.2 ≤ j) : rA own mm A h (va_up F (A c) (va_up (F (A c)) j x)) v DM len rl K := by
  have hB := hA.B
  have hcA : ∃ e ∈ aL, e.1 = c := (by decide : ∀ k, k ∈ [31, 32, 33, 35, 36, 37, 38, 48, 49, 54] → ∃ e ∈ aL, e.1 = k) c hc
  have hc9 : c ≤ 54 := (by decide : ∀ k, k ∈ [31, 32, 33, 35, 36, 37, 38, 48, 49, 54] → k ≤ 54) c hc
  have ne : ∀ k, (∃ e ∈ aL, e.1 = k) → k ≠ c → va_up F (A c) (va_up (F (A c)) j x) (A k) = F (A k) := fun k hk h9 => by rw [xh_up, if_neg (hB.ne hk hcA h9)]
  have at_ : ∀ k, (∃ e ∈ aL, e.1 = k) → ∀ i, (k = c → i < j) → va_up F (A c) (va_up (F (A c)) j x) (A k) i = F (A k) i := fun k hk i hi => by
    by_cases h9 : k = c
    · have h8 := hi h9
      subst h9
      rw [xh_up, if_pos rfl, xh_up, if_neg (by omega)]
    · rw [ne k hk h9]
  have sm : ∀ (k q : Nat), (k, q) ∈ [(31, 30), (32, 30), (35, 30), (36, 30), (37, 30), (38, 30), (33, 34), (48, 46), (49, 46), (54, 52)] → ∀ i, i < vN v q → k = c → i < j := fun k q hq i hi e => by
    have := hj (k, q) hq e
    dsimp only at this
    omega
  refine hA.ex (f0.aw (by rw [hB.o hcA]; omega)) (ne 90 (by decide) (by omega)) (fun a ha => by rw [xh_up, if_neg (fun e => by rw [e, hB.o hcA] at ha; omega)]) (fun _ _ => rfl) (fun k hk h9 => ?_) (fun k hk j' hj' => ?_) (fun j' hj' => ?_) (fun f _ => ?_) (fun t ht => ?_) (fun m hm => ?_) (fun g _ => ?_)
  · have q : ∀ k, k ∈ aRI → ∃ e ∈ aL, e.1 = k := by decide
    exact ne k (q k hk) (fun e => h9 ((by decide : ∀ k, k ∈ [31, 32, 33, 35, 36, 37, 38, 48, 49, 54] → k ∈ nwA) k (e ▸ hc)))
  · have q : ∀ k, k ∈ [31, 32, 35, 36, 37, 38] → (∃ e ∈ aL, e.1 = k) ∧ (k, 30) ∈ [(31, 30), (32, 30), (35, 30), (36, 30), (37, 30), (38, 30), (33, 34), (48, 46), (49, 46), (54, 52)] := by decide
    exact at_ k (q k hk).1 j' (sm k 30 (q k hk).2 j' hj')
  · exact at_ 33 (by decide) j' (sm 33 34 (by decide) j' hj')
  · exact ⟨at_ 44 (by decide) f (fun e => absurd (e ▸ hc) (by decide)), at_ 45 (by decide) f (fun e => absurd (e ▸ hc) (by decide))⟩
  · exact ⟨at_ 48 (by decide) t (sm 48 46 (by decide) t ht), at_ 49 (by decide) t (sm 49 46 (by decide) t ht)⟩
  · exact at_ 54 (by decide) m (sm 54 52 (by decide) m hm)
  · exact at_ 59 (by decide) g (fun e => absurd (e ▸ hc) (by decide))
theorem rQq.z {Q : xb_H → Nat → Nat → Prop} (hQ : rQq own mm h F rc rs K Q) (hz : zT own own' h F h' F') : rQq own' mm h' F' rc rs K Q := fun own2 A2 h2 F2 v2 DM2 len2 rl2 bc2 bs2 z2 A2' g2 => hQ own2 A2 h2 F2 v2 DM2 len2 rl2 bc2 bs2 (hz.tr z2) A2' g2
/-- its table's row -/
def prT (A : Nat → Nat) (h : xb_H) (F : Nat → Nat → Int32) (v : Nat → Int32) (D : zM) (x3 x5 : Int64) (hh : xb_H) (G : Nat → Nat → Int32) : Prop :=
  (∀ j, ¬ (j = vN v 46 ∧ 0 < qt D 4) → G (A 48) j = F (A 48) j ∧ G (A 49) j = F (A 49) j ∧ xb_l hh (A 50) j = xb_l h (A 50) j) ∧
  (0 < qt D 4 → (G (A 48) (vN v 46)).toInt = vN v 47 ∧ (G (A 49) (vN v 46)).toInt = x3.toInt ∧ xb_l hh (A 50) (vN v 46) = x5)
theorem prT.cg {x3 x5 : Int64} {hh : xb_H} {G G2 : Nat → Nat → Int32} (hp : prT A h F v D x3 x5 hh G) (h48 : G2 (A 48) = G (A 48)) (h49 : G2 (A 49) = G (A 49)) (h50 : xb_l h2 (A 50) = xb_l hh (A 50)) : prT A h F v D x3 x5 h2 G2 := by
  unfold prT at *
  rw [h48, h49, h50]
  exact hp
/-- its memory's row -/
def prP (A : Nat → Nat) (h : xb_H) (F : Nat → Nat → Int32) (v : Nat → Int32) (D : zM) (x7 x9 : Int64) (hh : xb_H) (G : Nat → Nat → Int32) : Prop :=
  (∀ j, ¬ (j = vN v 52 ∧ 0 < qt D 5) → G (A 54) j = F (A 54) j ∧ xb_l hh (A 55) j = xb_l h (A 55) j) ∧
  (0 < qt D 5 → (G (A 54) (vN v 52)).toInt = x7.toInt ∧ xb_l hh (A 55) (vN v 52) = x9)
/-- an instance's rows, before its variables -/
def prX (A : Nat → Nat) (h : xb_H) (F : Nat → Nat → Int32) (v : Nat → Int32) (D : zM) (m : Nat) (x3 x5 x7 x9 : Int64) (hh : xb_H) (G : Nat → Nat → Int32) : Prop :=
  ((G (A 31) (vN v 30)).toInt = m ∧ (G (A 32) (vN v 30)).toInt = vN v 34 ∧ (G (A 35) (vN v 30)).toInt = vN v 43 ∧ (G (A 36) (vN v 30)).toInt = vN v 58 ∧ (G (A 37) (vN v 30)).toInt = vN v 46 ∧ (G (A 38) (vN v 30)).toInt = vN v 52) ∧
  (∀ c, c ∈ [31, 32, 35, 36, 37, 38] → ∀ j, j ≠ vN v 30 → G (A c) j = F (A c) j) ∧
  (∀ k, (∃ e ∈ aL, e.1 = k) → k ∉ [31, 32, 35, 36, 37, 38, 48, 49, 54] → G (A k) = F (A k)) ∧
  prT A h F v D x3 x5 hh G ∧ prP A h F v D x7 x9 hh G ∧ ∀ a, a ≠ A 50 → a ≠ A 55 → xb_l hh a = xb_l h a
theorem m_inst202E {x1 : Int32} {x3 x5 x7 x9 : Int64} (hA : rA own mm A h F v DM len rl K) (h62 : v 62 = 0) (h1 : x1.toInt = m) (hm : m < vN v 5) (b30 : vN v 30 < 24) (b43 : vN v 43 + qt (DM m) 3 ≤ 8192) (b58 : vN v 58 + qt (DM m) 6 ≤ 4096) (b34 : vN v 34 + qt (DM m) 2 ≤ rl) (b2 : qt (DM m) 2 ≤ 10240) (t3 : 0 ≤ x3.toInt) (t3' : vN v 47 + x3.toInt ≤ 16384) (t7 : 0 ≤ x7.toInt) (t7' : vN v 53 + x7.toInt ≤ 16) (hI : ∀ k, k < qt (DM m) 2 → rOK (fun k => F (A k)) v DM (DM m) k (F (A 33) (vN v 34 + k)).toInt) (hQn : ∀ (h2 : xb_H) (G2 : Nat → Nat → Int32), f0 own h F h2 G2 → prX A h F v (DM m) m x3 x5 x7 x9 h2 G2 → rA own mm A h2 G2 v DM len rl K → nwJ A G2 v DM rl m → w_M_instantiate_L362 Qr mm x1 (v 30) (mH h2 G2 mm v) bc bs) : w_M_instantiate_L202 Qr mm x1 x3 x5 x7 x9 1 (mH h F mm v) bc bs := by
  have hB := hA.B
  obtain ⟨n30, -⟩ := hA.n (k := 30) (b := 24) (by decide)
  obtain ⟨n34, -⟩ := hA.n (k := 34) (b := 245760) (by decide)
  obtain ⟨n43, -⟩ := hA.n (k := 43) (b := 8192) (by decide)
  obtain ⟨n58, -⟩ := hA.n (k := 58) (b := 4096) (by decide)
  obtain ⟨n46, n46'⟩ := hA.n (k := 46) (b := 24) (by decide)
  obtain ⟨n52, n52'⟩ := hA.n (k := 52) (b := 24) (by decide)
  obtain ⟨n47, -⟩ := hA.n (k := 47) (b := 16384) (by decide)
  obtain ⟨w1', w2', w3', w4', w5', w6, w7, w8'⟩ := hA.W1
  have g31 := hB.kx (k := 31) (kd := 102) (n := 24) (by decide) (by decide)
  have g32 := hB.kx (k := 32) (kd := 102) (n := 24) (by decide) (by decide)
  have g35 := hB.kx (k := 35) (kd := 102) (n := 24) (by decide) (by decide)
  have g36 := hB.kx (k := 36) (kd := 102) (n := 24) (by decide) (by decide)
  have g37 := hB.kx (k := 37) (kd := 102) (n := 24) (by decide) (by decide)
  have g38 := hB.kx (k := 38) (kd := 102) (n := 24) (by decide) (by decide)
  have g48 := hB.kx (k := 48) (kd := 102) (n := 24) (by decide) (by decide)
  have g49 := hB.kx (k := 49) (kd := 102) (n := 24) (by decide) (by decide)
  have g50 := hB.kx (k := 50) (kd := 103) (n := 24) (by decide) (by decide)
  have g54 := hB.kx (k := 54) (kd := 102) (n := 24) (by decide) (by decide)
  have g55 := hB.kx (k := 55) (kd := 103) (n := 24) (by decide) (by decide)
  have c30 : (v 30).toNatClampNeg = vN v 30 := by rw [z_cl, n30]; omega
  have c46 : (v 46).toNatClampNeg = vN v 46 := by rw [z_cl, n46]; omega
  have c52 : (v 52).toNatClampNeg = vN v 52 := by rw [z_cl, n52]; omega
  have in30 : ∀ (hh : xb_H) (a : Nat), xb_n hh a = 24 → vp_in (v 30) (xb_n hh a) := fun hh a ha => by rw [z_in, n30, ha]; omega
  have in46 : ∀ (hh : xb_H) (a : Nat), xb_n hh a = 24 → vp_in (v 46) (xb_n hh a) := fun hh a ha => by rw [z_in, n46, ha]; omega
  have in52 : ∀ (hh : xb_H) (a : Nat), xb_n hh a = 24 → vp_in (v 52) (xb_n hh a) := fun hh a ha => by rw [z_in, n52, ha]; omega
  unfold w_M_instantiate_L202
  rw [mH_i]
  refine ⟨fun _ => ⟨hB.2.1, fun v3 ev3 => ?_⟩, fun h9 => absurd h9 (by decide)⟩
  subst ev3
  refine ⟨A 31, g31.1, g31.2.1, in30 h _ g31.2.2.1, fun h7 e7 => ?_⟩
  rw [mH_A g31.2.2.2, c30] at e7
  subst e7
  rw [mH_i]
  refine ⟨A 32, g32.1, g32.2.1, in30 h _ g32.2.2.1, fun h11 e11 => ?_⟩
  rw [mH_A g32.2.2.2, c30] at e11
  subst e11
  rw [mH_i]
  refine ⟨A 35, g35.1, g35.2.1, in30 h _ g35.2.2.1, fun h15 e15 => ?_⟩
  rw [mH_A g35.2.2.2, c30] at e15
  subst e15
  rw [mH_i]
  refine ⟨A 36, g36.1, g36.2.1, in30 h _ g36.2.2.1, fun h19 e19 => ?_⟩
  rw [mH_A g36.2.2.2, c30] at e19
  subst e19
  rw [mH_i]
  refine ⟨A 37, g37.1, g37.2.1, in30 h _ g37.2.2.1, fun h23 e23 => ?_⟩
  rw [mH_A g37.2.2.2, c30] at e23
  subst e23
  rw [mH_i]
  refine ⟨A 38, g38.1, g38.2.1, in30 h _ g38.2.2.1, fun h27 e27 => ?_⟩
  rw [mH_A g38.2.2.2, c30] at e27
  subst e27
  -- one write after another
  obtain ⟨U, hU⟩ : ∃ U : Nat → Nat → Int32 → (Nat → Nat → Int32) → Nat → Nat → Int32, U = fun c j x G => va_up G (A c) (va_up (G (A c)) j x) := ⟨_, rfl⟩
  have Ue : ∀ (c j : Nat) (x : Int32) (G : Nat → Nat → Int32), va_up G (A c) (va_up (G (A c)) j x) = U c j x G := fun c j x G => by rw [hU]
  simp only [Ue]
  have Uo : ∀ (c j : Nat) (x : Int32) (G : Nat → Nat → Int32) (k : Nat), (∃ e ∈ aL, e.1 = c) → (∃ e ∈ aL, e.1 = k) → k ≠ c → U c j x G (A k) = G (A k) := fun c j x G k hc hk h9 => by
    rw [hU]
    dsimp only
    rw [xh_up, if_neg (hB.ne hk hc h9)]
  have Us : ∀ (c j : Nat) (x : Int32) (G : Nat → Nat → Int32), U c j x G (A c) j = x := fun c j x G => by
    rw [hU]
    dsimp only
    rw [xh_up, if_pos rfl, xh_up, if_pos rfl]
  have Uf : ∀ (c j : Nat) (x : Int32) (G : Nat → Nat → Int32), (∃ e ∈ aL, e.1 = c) → f0 own h G h (U c j x G) := fun c j x G hc => by
    rw [hU]
    exact f0.aw (by rw [hB.o hc]; omega)
  have UA : ∀ (c j : Nat) (x : Int32) (G : Nat → Nat → Int32) (hh : xb_H), rA own mm A hh G v DM len rl K → c ∈ [31, 32, 33, 35, 36, 37, 38, 48, 49, 54] → (∀ e ∈ [(31, 30), (32, 30), (35, 30), (36, 30), (37, 30), (38, 30), (33, 34), (48, 46), (49, 46), (54, 52)], e.1 = c → vN v e.2 ≤ j) → rA own mm A hh (U c j x G) v DM len rl K := fun c j x G hh hG hc hj => by
    rw [hU]
    exact hG.up1 hc hj
  obtain ⟨G6, hG6⟩ : ∃ G6, G6 = U 38 (vN v 30) (v 52) (U 37 (vN v 30) (v 46) (U 36 (vN v 30) (v 58) (U 35 (vN v 30) (v 43) (U 32 (vN v 30) (v 34) (U 31 (vN v 30) x1 F))))) := ⟨_, rfl⟩
  rw [← hG6]
  have q30 : ∀ c, c ∈ [31, 32, 35, 36, 37, 38] → ∀ e ∈ [(31, 30), (32, 30), (35, 30), (36, 30), (37, 30), (38, 30), (33, 34), (48, 46), (49, 46), (54, 52)], e.1 = c → vN v e.2 ≤ vN v 30 := fun c hc e he h9 => by
    have q : ∀ c, c ∈ [31, 32, 35, 36, 37, 38] → ∀ e ∈ [(31, 30), (32, 30), (35, 30), (36, 30), (37, 30), (38, 30), (33, 34), (48, 46), (49, 46), (54, 52)], e.1 = c → e.2 = 30 := by decide
    rw [q c hc e he h9]
    exact Nat.le_refl _
  have A6 : rA own mm A h G6 v DM len rl K := by
    rw [hG6]
    exact UA 38 _ _ _ h (UA 37 _ _ _ h (UA 36 _ _ _ h (UA 35 _ _ _ h (UA 32 _ _ _ h (UA 31 _ _ _ h hA (by decide) (q30 31 (by decide))) (by decide) (q30 32 (by decide))) (by decide) (q30 35 (by decide))) (by decide) (q30 36 (by decide))) (by decide) (q30 37 (by decide))) (by decide) (q30 38 (by decide))
  have f6 : f0 own h F h G6 := by
    rw [hG6]
    exact (((((Uf 31 _ _ _ (by decide)).tr (Uf 32 _ _ _ (by decide))).tr (Uf 35 _ _ _ (by decide))).tr (Uf 36 _ _ _ (by decide))).tr (Uf 37 _ _ _ (by decide))).tr (Uf 38 _ _ _ (by decide))
  have o6 : ∀ k, (∃ e ∈ aL, e.1 = k) → k ∉ [31, 32, 35, 36, 37, 38] → G6 (A k) = F (A k) := fun k hk h9 => by
    have q : ∀ j, j ∈ [31, 32, 35, 36, 37, 38] → k ≠ j := fun j hj e => h9 (e ▸ hj)
    rw [hG6, Uo _ _ _ _ _ (by decide) hk (q 38 (by decide)), Uo _ _ _ _ _ (by decide) hk (q 37 (by decide)), Uo _ _ _ _ _ (by decide) hk (q 36 (by decide)), Uo _ _ _ _ _ (by decide) hk (q 35 (by decide)), Uo _ _ _ _ _ (by decide) hk (q 32 (by decide)), Uo _ _ _ _ _ (by decide) hk (q 31 (by decide))]
  have Ul : ∀ (c j : Nat) (x : Int32) (G : Nat → Nat → Int32) (k i : Nat), (∃ e ∈ aL, e.1 = c) → (∃ e ∈ aL, e.1 = k) → i ≠ j → U c j x G (A k) i = G (A k) i := fun c j x G k i hc hk hij => by
    rw [hU]
    dsimp only
    by_cases h9 : k = c
    · subst h9
      rw [xh_up, if_pos rfl, xh_up, if_neg hij]
    · rw [xh_up, if_neg (hB.ne hk hc h9)]
  have p6' : ∀ c, c ∈ [31, 32, 35, 36, 37, 38] → ∀ j, j ≠ vN v 30 → G6 (A c) j = F (A c) j := fun c hc j hj => by
    have hcA : ∃ e ∈ aL, e.1 = c := (by decide : ∀ k, k ∈ [31, 32, 35, 36, 37, 38] → ∃ e ∈ aL, e.1 = k) c hc
    rw [hG6, Ul _ _ _ _ _ _ (by decide) hcA hj, Ul _ _ _ _ _ _ (by decide) hcA hj, Ul _ _ _ _ _ _ (by decide) hcA hj, Ul _ _ _ _ _ _ (by decide) hcA hj, Ul _ _ _ _ _ _ (by decide) hcA hj, Ul _ _ _ _ _ _ (by decide) hcA hj]
  have s31 : (G6 (A 31) (vN v 30)).toInt = m := by
    rw [hG6, Uo _ _ _ _ 31 (by decide) (by decide) (by decide), Uo _ _ _ _ 31 (by decide) (by decide) (by decide), Uo _ _ _ _ 31 (by decide) (by decide) (by decide), Uo _ _ _ _ 31 (by decide) (by decide) (by decide), Uo _ _ _ _ 31 (by decide) (by decide) (by decide), Us]; exact h1
  have s32 : (G6 (A 32) (vN v 30)).toInt = vN v 34 := by
    rw [hG6, Uo _ _ _ _ 32 (by decide) (by decide) (by decide), Uo _ _ _ _ 32 (by decide) (by decide) (by decide), Uo _ _ _ _ 32 (by decide) (by decide) (by decide), Uo _ _ _ _ 32 (by decide) (by decide) (by decide), Us]; exact n34
  have s35 : (G6 (A 35) (vN v 30)).toInt = vN v 43 := by
    rw [hG6, Uo _ _ _ _ 35 (by decide) (by decide) (by decide), Uo _ _ _ _ 35 (by decide) (by decide) (by decide), Uo _ _ _ _ 35 (by decide) (by decide) (by decide), Us]; exact n43
  have s36 : (G6 (A 36) (vN v 30)).toInt = vN v 58 := by
    rw [hG6, Uo _ _ _ _ 36 (by decide) (by decide) (by decide), Uo _ _ _ _ 36 (by decide) (by decide) (by decide), Us]; exact n58
  have s37 : (G6 (A 37) (vN v 30)).toInt = vN v 46 := by
    rw [hG6, Uo _ _ _ _ 37 (by decide) (by decide) (by decide), Us]; exact n46
  have s38 : (G6 (A 38) (vN v 30)).toInt = vN v 52 := by
    rw [hG6, Us]; exact n52
  clear hG6
  -- the rest, whatever was written of a table
  have L330 : ∀ (G : Nat → Nat → Int32) (hh : xb_H), rA own mm A hh G v DM len rl K → f0 own h F hh G → (∀ k, (∃ e ∈ aL, e.1 = k) → k ∉ [48, 49] → G (A k) = G6 (A k)) → (0 < qt (DM m) 4 → (G (A 48) (vN v 46)).toInt = vN v 47 ∧ ∃ tz : Nat, (G (A 49) (vN v 46)).toInt = tz ∧ vN v 47 + tz ≤ 16384) → prT A h F v (DM m) x3 x5 hh G → (∀ a, a ≠ A 50 → xb_l hh a = xb_l h a) → w_M_instantiate_L330 Qr mm x1 x7 x9 (v 30) (mH hh G mm v) bc bs := by
    intro G hh AG fG oG hT hPT hlT
    have G54 : G (A 54) = F (A 54) := (oG 54 (by decide) (by decide)).trans (o6 54 (by decide) (by decide))
    have n5550 : A 55 ≠ A 50 := hB.ne (by decide) (by decide) (by decide)
    have XG := AG.X hm
    have fin : ∀ (G2 : Nat → Nat → Int32) (h2 : xb_H), rA own mm A h2 G2 v DM len rl K → f0 own h F h2 G2 → (∀ k, (∃ e ∈ aL, e.1 = k) → k ≠ 54 → G2 (A k) = G (A k)) → (0 < qt (DM m) 5 → ∃ pc : Nat, (G2 (A 54) (vN v 52)).toInt = pc ∧ vN v 53 + pc ≤ 16) → prP A h F v (DM m) x7 x9 h2 G2 → (∀ a, a ≠ A 55 → xb_l h2 a = xb_l hh a) → w_M_instantiate_L362 Qr mm x1 (v 30) (mH h2 G2 mm v) bc bs := by
      intro G2 h2 AG2 fG2 oG2 hP hPP hlP
      have oo : ∀ k, (∃ e ∈ aL, e.1 = k) → k ∉ [48, 49] → k ≠ 54 → G2 (A k) = G6 (A k) := fun k hk h9 h8 => (oG2 k hk h8).trans (oG k hk h9)
      have oF : ∀ k, (∃ e ∈ aL, e.1 = k) → k ∉ [48, 49] → k ≠ 54 → k ∉ [31, 32, 35, 36, 37, 38] → G2 (A k) = F (A k) := fun k hk h9 h8 h7 => (oo k hk h9 h8).trans (o6 k hk h7)
      have s31' : (G2 (A 31) (vN v 30)).toInt = m := by rw [oo 31 (by decide) (by decide) (by decide)]; exact s31
      have s32' : (G2 (A 32) (vN v 30)).toInt = vN v 34 := by rw [oo 32 (by decide) (by decide) (by decide)]; exact s32
      have s35' : (G2 (A 35) (vN v 30)).toInt = vN v 43 := by rw [oo 35 (by decide) (by decide) (by decide)]; exact s35
      have s36' : (G2 (A 36) (vN v 30)).toInt = vN v 58 := by rw [oo 36 (by decide) (by decide) (by decide)]; exact s36
      have s37' : (G2 (A 37) (vN v 30)).toInt = vN v 46 := by rw [oo 37 (by decide) (by decide) (by decide)]; exact s37
      have s38' : (G2 (A 38) (vN v 30)).toInt = vN v 52 := by rw [oo 38 (by decide) (by decide) (by decide)]; exact s38
      have hpx : prX A h F v (DM m) m x3 x5 x7 x9 h2 G2 := by
        refine ⟨⟨s31', s32', s35', s36', s37', s38'⟩, fun c hc j hj => ?_, fun k hk h9 => ?_, hPT.cg (oG2 48 (by decide) (by decide)) (oG2 49 (by decide) (by decide)) (hlP _ (Ne.symm n5550)), hPP, fun a h50 h55 => (hlP a h55).trans (hlT a h50)⟩
        · have q : ∀ c, c ∈ [31, 32, 35, 36, 37, 38] → (∃ e ∈ aL, e.1 = c) ∧ c ∉ [48, 49] ∧ c ≠ 54 := by decide
          rw [oo c (q c hc).1 (q c hc).2.1 (q c hc).2.2]
          exact p6' c hc j hj
        · exact oF k hk (fun h8 => h9 ((by decide : ∀ k, k ∈ [48, 49] → k ∈ [31, 32, 35, 36, 37, 38, 48, 49, 54]) k h8)) (fun h8 => h9 (by rw [h8]; decide)) (fun h8 => h9 ((by decide : ∀ k, k ∈ [31, 32, 35, 36, 37, 38] → k ∈ [31, 32, 35, 36, 37, 38, 48, 49, 54]) k h8))
      refine hQn h2 G2 fG2 hpx AG2 ⟨⟨b30, hm, b43, b58, b34, b2⟩, ⟨?_, ?_, ?_, ?_, ?_, ?_⟩, ?_, hP, fun k hk => ?_⟩
      · exact s31'
      · exact s32'
      · exact s35'
      · exact s36'
      · exact s37'
      · exact s38'
      · rw [oG2 48 (by decide) (by decide), oG2 49 (by decide) (by decide)]; exact hT
      · rw [oF 33 (by decide) (by decide) (by decide) (by decide)]
        have hr := hI k hk
        have n43' := (hA.n (k := 43) (b := 8192) (by decide)).2
        obtain ⟨-, y3, y4, -⟩ := hA.I.2
        refine hr.gr (φ' := fun k => G2 (A k)) ⟨fun _ _ => Nat.le_refl _, fun _ _ => rfl, fun c hc j hj => ?_, fun j hj => ?_, fun f _ => ?_, fun g _ => ?_⟩ y3 y4 n43'
        · have q : ∀ c, c ∈ [31, 32, 35, 36, 37, 38] → (∃ e ∈ aL, e.1 = c) ∧ c ∉ [48, 49] ∧ c ≠ 54 := by decide
          show G2 (A c) j = F (A c) j
          rw [oo c (q c hc).1 (q c hc).2.1 (q c hc).2.2]
          have p6 : ∀ c, c ∈ [31, 32, 35, 36, 37, 38] → ∀ j, j < vN v 30 → G6 (A c) j = F (A c) j := fun c hc j hj => p6' c hc j (by omega)
          exact p6 c hc j hj
        · show G2 (A 33) j = F (A 33) j
          rw [oF 33 (by decide) (by decide) (by decide) (by decide)]
        · show G2 (A 44) f = F (A 44) f ∧ G2 (A 45) f = F (A 45) f
          rw [oF 44 (by decide) (by decide) (by decide) (by decide), oF 45 (by decide) (by decide) (by decide) (by decide)]
          exact ⟨rfl, rfl⟩
        · show G2 (A 59) g = F (A 59) g
          rw [oF 59 (by decide) (by decide) (by decide) (by decide)]
    unfold w_M_instantiate_L330
    refine ⟨AG.B.2.1, m_manyOf XG h1 (s := 5) rfl (by decide) (fun r3 e3 _ => ⟨fun hle => ?_, fun hle => ?_⟩)⟩
    · rw [z_le, e3] at hle
      simp only [Int32.reduceToInt] at hle
      exact fin G hh AG fG (fun _ _ _ => rfl) (fun h9 => by omega) ⟨fun j _ => by rw [G54, hlT _ n5550]; exact ⟨rfl, rfl⟩, fun h9 => by omega⟩ (fun _ _ => rfl)
    · have h50 : 0 < qt (DM m) 5 := by
        rw [z_le, e3] at hle
        simp only [Int32.reduceToInt] at hle
        omega
      rw [mH_i]
      refine ⟨A 54, by show xb_r hh mm 54 = some (A 54); rw [fG.2.2.1]; exact g54.1, by show xb_k hh (A 54) = 102; rw [fG.1]; exact g54.2.1, in52 hh _ (by rw [fG.2.1]; exact g54.2.2.1), fun h8 e8 => ?_⟩
      rw [mH_A g54.2.2.2, c52] at e8
      subst e8
      rw [mH_i]
      refine ⟨A 55, by show xb_r hh mm 55 = some (A 55); rw [fG.2.2.1]; exact g55.1, by show xb_k hh (A 55) = 103; rw [fG.1]; exact g55.2.1, in52 hh _ (by rw [fG.2.1]; exact g55.2.2.1), fun h12 e12 => ?_⟩
      have e12' : h12 = mH (xb_L hh (A 55) (v 52).toNatClampNeg x9) (va_up G (A 54) (va_up (G (A 54)) (vN v 52) (Int64.toInt32 x7))) mm v := e12
      subst e12'
      have o55 : 60 ≤ own (A 55) := by rw [hB.o (by decide)]; omega
      refine fin _ _ ((AG.up1 (by decide) (fun e he h9 => ?_)).L o55) ((fG.tr (f0.aw (by rw [hB.o (by decide)]; omega))).tr (f0.L o55)) (fun k hk h9 => by rw [xh_up, if_neg (hB.ne hk (by decide) h9)]) (fun _ => ⟨x7.toInt.toNat, ?_, by omega⟩) ⟨fun j hj => ?_, fun _ => ?_⟩ (fun a ha => by rw [xh_lL, if_neg ha])
      · have q : ∀ e ∈ [(31, 30), (32, 30), (35, 30), (36, 30), (37, 30), (38, 30), (33, 34), (48, 46), (49, 46), (54, 52)], e.1 = 54 → e.2 = 52 := by decide
        rw [q e he h9]
        exact Nat.le_refl _
      · rw [xh_up, if_pos rfl, xh_up, if_pos rfl, z_of64]
        omega
      · have hj' : j ≠ vN v 52 := fun e => hj ⟨e, h50⟩
        rw [xh_up, if_pos rfl, xh_up, if_neg hj', G54, xh_lL, if_pos rfl, c52, xh_up, if_neg hj', hlT _ n5550]
        exact ⟨rfl, rfl⟩
      · rw [xh_up, if_pos rfl, xh_up, if_pos rfl, z_of64, xh_lL, if_pos rfl, c52, xh_up, if_pos rfl]
        exact ⟨by omega, rfl⟩
  have X6 := A6.X hm
  refine m_manyOf X6 h1 (s := 4) rfl (by decide) (fun r29 e29 _ => ⟨fun hle => ?_, fun hle => ?_⟩)
  · rw [z_le, e29] at hle
    simp only [Int32.reduceToInt] at hle
    exact L330 G6 h A6 f6 (fun _ _ _ => rfl) (fun h9 => by omega) ⟨fun j _ => by rw [o6 48 (by decide) (by decide), o6 49 (by decide) (by decide)]; exact ⟨rfl, rfl, rfl⟩, fun h9 => by omega⟩ (fun _ _ => rfl)
  · have h40 : 0 < qt (DM m) 4 := by
      rw [z_le, e29] at hle
      simp only [Int32.reduceToInt] at hle
      omega
    rw [mH_i]
    refine ⟨A 48, g48.1, g48.2.1, in46 h _ g48.2.2.1, fun h34 e34 => ?_⟩
    rw [mH_A g48.2.2.2, c46] at e34
    subst e34
    rw [mH_i]
    refine ⟨A 49, g49.1, g49.2.1, in46 h _ g49.2.2.1, fun h38 e38 => ?_⟩
    rw [mH_A g49.2.2.2, c46] at e38
    subst e38
    rw [mH_i]
    refine ⟨A 50, g50.1, g50.2.1, in46 h _ g50.2.2.1, fun h42 e42 => ?_⟩
    rw [Ue, Ue] at e42
    have e42' : h42 = mH (xb_L h (A 50) (v 46).toNatClampNeg x5) (U 49 (vN v 46) (Int64.toInt32 x3) (U 48 (vN v 46) (v 47) G6)) mm v := e42
    subst e42'
    have o50 : 60 ≤ own (A 50) := by rw [hB.o (by decide)]; omega
    have q46 : ∀ c, c ∈ [48, 49] → ∀ e ∈ [(31, 30), (32, 30), (35, 30), (36, 30), (37, 30), (38, 30), (33, 34), (48, 46), (49, 46), (54, 52)], e.1 = c → vN v e.2 ≤ vN v 46 := fun c hc e he h9 => by
      have q : ∀ c, c ∈ [48, 49] → ∀ e ∈ [(31, 30), (32, 30), (35, 30), (36, 30), (37, 30), (38, 30), (33, 34), (48, 46), (49, 46), (54, 52)], e.1 = c → e.2 = 46 := by decide
      rw [q c hc e he h9]
      exact Nat.le_refl _
    refine L330 _ _ ((UA 49 _ _ _ h (UA 48 _ _ _ h A6 (by decide) (q46 48 (by decide))) (by decide) (q46 49 (by decide))).L o50) (((f6.tr (Uf 48 _ _ _ (by decide))).tr (Uf 49 _ _ _ (by decide))).tr (f0.L o50)) (fun k hk h9 => ?_) (fun _ => ⟨?_, x3.toInt.toNat, ?_, by omega⟩) ⟨fun j hj => ?_, fun _ => ⟨?_, ?_, ?_⟩⟩ (fun a ha => by rw [xh_lL, if_neg ha])
    · have q : ∀ j, j ∈ [48, 49] → k ≠ j := fun j hj e => h9 (e ▸ hj)
      rw [Uo _ _ _ _ _ (by decide) hk (q 49 (by decide)), Uo _ _ _ _ _ (by decide) hk (q 48 (by decide))]
    · rw [Uo _ _ _ _ _ (by decide) (by decide) (by decide), Us]; exact n47
    · rw [Us, z_of64]
      omega
    · have hj' : j ≠ vN v 46 := fun e => hj ⟨e, h40⟩
      rw [Ul _ _ _ _ 48 j (by decide) (by decide) hj', Ul _ _ _ _ 48 j (by decide) (by decide) hj', Ul _ _ _ _ 49 j (by decide) (by decide) hj', Ul _ _ _ _ 49 j (by decide) (by decide) hj', o6 48 (by decide) (by decide), o6 49 (by decide) (by decide), xh_lL, if_pos rfl, c46, xh_up, if_neg hj']
      exact ⟨rfl, rfl, rfl⟩
    · rw [Uo _ _ _ _ _ (by decide) (by decide) (by decide), Us]; exact n47
    · rw [Us, z_of64]
      omega
    · rw [xh_lL, if_pos rfl, c46, xh_up, if_pos rfl]
theorem m_inst202 {x1 : Int32} {x3 x5 x7 x9 : Int64} (hA : rA own mm A h F v DM len rl K) (h62 : v 62 = 0) (h1 : x1.toInt = m) (hm : m < vN v 5) (b30 : vN v 30 < 24) (b43 : vN v 43 + qt (DM m) 3 ≤ 8192) (b58 : vN v 58 + qt (DM m) 6 ≤ 4096) (b34 : vN v 34 + qt (DM m) 2 ≤ rl) (b2 : qt (DM m) 2 ≤ 10240) (t3 : 0 ≤ x3.toInt) (t3' : vN v 47 + x3.toInt ≤ 16384) (t7 : 0 ≤ x7.toInt) (t7' : vN v 53 + x7.toInt ≤ 16) (hI : ∀ k, k < qt (DM m) 2 → rOK (fun k => F (A k)) v DM (DM m) k (F (A 33) (vN v 34 + k)).toInt) (hg : rG len rl rc rs K bc bs) (hQ : ∀ r, rQq own mm h F rc rs K (Qr r)) : w_M_instantiate_L202 Qr mm x1 x3 x5 x7 x9 1 (mH h F mm v) bc bs :=
  m_inst202E hA h62 h1 hm b30 b43 b58 b34 b2 t3 t3' t7 t7' hI (fun h2 G2 f _ a j => m_inst365 a j h62 h1 (hA.n (k := 30) (b := 24) (by decide)).1 hg (fun r => (hQ r).z f.z))
end MN8

-- equality: the reference turns numbers into others
section XFH
variable {ex rw_ a : Nat} {f : Nat → Nat} {h h' : xb_H} {F : List Nat} {x y : Int64}
theorem b24 : fpb 125 24 127 := .inl ⟨rfl, rfl, rfl⟩
theorem b53 : fpb 124 53 1023 := .inr ⟨rfl, rfl, rfl⟩
theorem fow_x {p b : Nat} {x : Int64} {u : Int} (hu : x.toInt = u) : fow p b (x.toInt < 0) x.toInt.natAbs = fow p b (u < 0) u.natAbs := by rw [hu]
theorem xr_eturnedInto {x1 : Int32} {o : Nat} {Qr : Int64 → xb_H → Prop} (hx1 : x1.toInt = o) (h1 : 167 ≤ o) (h2' : o < 192) (hk : eK ex rw_ f h) (hc : xb_i h ex 0 = 0) (hx : x.toBitVec.toNat = a) (wa : a < 2 ^ nmw o)
    (hQ : ∀ (r : Int64) (h' : xb_H) (f' : Nat → Nat), eF ex rw_ eFB h h' → eK ex rw_ f' h' → nmt o a 0 = 0 → r.toBitVec.toNat % 2 ^ nmr o = nmv o a 0 % 2 ^ nmr o → Qr r h')
    (hT : ∀ (c : Int32) (h' : xb_H) (f' : Nat → Nat), eF ex rw_ eFA h h' → eK ex rw_ f' h' → xb_i h' ex 0 = c → nmt o a 0 ≠ 0 → c.toInt + 1 = nmt o a 0 → Qr 0 h') : w_Exact_turnedInto ex x1 x h Qr := by
  have k1 := hk.1.1
  have c : ∀ (z : Int32) (j : Nat), z.toInt = j → (x1 = z ↔ o = j) := fun z j e => by rw [z_eq, hx1, e]; omega
  have lt : ∀ (z : Int32) (j : Nat), z.toInt = j → (x1 < z ↔ o < j) := fun z j e => by rw [z_lt, hx1, e]; omega
  have gt : ∀ (z : Int32) (j : Nat), z.toInt = j → (z < x1 ↔ j < o) := fun z j e => by rw [z_lt, hx1, e]; omega
  have le : ∀ (z : Int32) (j : Nat), z.toInt = j → (x1 ≤ z ↔ o ≤ j) := fun z j e => by rw [z_le, hx1, e]; omega
  have ge : ∀ (z : Int32) (j : Nat), z.toInt = j → (z ≤ x1 ↔ j ≤ o) := fun z j e => by rw [z_le, hx1, e]; omega
  have noT : ¬ (o = 168 ∨ o = 169) → ¬ (o = 170 ∨ o = 171) → ¬ (o = 174 ∨ o = 175) → ¬ (o = 176 ∨ o = 177) → nmt o a 0 = 0 := fun g1 g2 g3 g4 => by
    unfold nmt
    rw [if_neg (by omega), if_neg (by omega), if_neg g1, if_neg g2, if_neg g3, if_neg g4]
  have ev : (x1 - x1 / 2 * 2) = 0 ↔ o % 2 = 0 := by
    have e1 : (x1 / 2).toInt = (o / 2 : Nat) := by
      rw [Int32.toInt_div_of_ne_right _ _ (by decide), hx1]
      exact (Int.ofNat_tdiv _ _).symm
    rw [z_eq, z_sub, z_mul, e1, hx1, show (2 : Int32).toInt = 2 from rfl, show (0 : Int32).toInt = 0 from rfl]
    omega
  -- a number that is made floating
  have fl : ∀ (p b : Nat) (τ : Int) (h2 : xb_H) (s : Int32) (z : Int64), fpb τ p b → eF ex rw_ [5, 6, 7] h h2 → eK ex rw_ f h2 → eP ex τ h2 → ¬ (o = 168 ∨ o = 169) → ¬ (o = 170 ∨ o = 171) → ¬ (o = 174 ∨ o = 175) → ¬ (o = 176 ∨ o = 177) → (if s = 0 then fow p b False z.toBitVec.toNat else fow p b (z.toInt < 0) z.toInt.natAbs) = nmv o a 0 → xb_k h2 ex = 10 ∧ w_Exact_floating ex z s h2 (fun r3 h3 => xb_ext h2 h3 → Qr r3 h3) := fun p b τ h2 s z hb f2 k2 m2 g1 g2 g3 g4 hv => ⟨k2.1.1, xr_efloating k2 m2 hb (fun r h' f' j1 j2 j3 _ => hQ r h' f' ((f2.tr j1).mono (by decide)) j2 (noT g1 g2 g3 g4) (by rw [j3, hv]))⟩
  have rf : ∀ (p b p2 b2 : Nat) (τ τ2 : Int) (h2 : xb_H) (w : Int32), fpb τ p b → fpb τ2 p2 b2 → ((w = 32 ∧ τ2 = 125) ∨ (w = 64 ∧ τ2 = 124)) → fW p b a → eF ex rw_ [5, 6, 7] h h2 → eK ex rw_ f h2 → eP ex τ h2 → ¬ (o = 168 ∨ o = 169) → ¬ (o = 170 ∨ o = 171) → ¬ (o = 174 ∨ o = 175) → ¬ (o = 176 ∨ o = 177) → fcv p b p2 b2 a = nmv o a 0 → xb_k h2 ex = 10 ∧ w_Exact_reformed ex x w h2 (fun r3 h3 => xb_ext h2 h3 → Qr r3 h3) := fun p b p2 b2 τ τ2 h2 w hb hb2 hw wx f2 k2 m2 g1 g2 g3 g4 hv => ⟨k2.1.1, xr_ereformed k2 m2 hb hb2 hw hx wx (fun r h' f' j1 j2 j3 _ => hQ r h' f' ((f2.tr j1).mono (by decide)) j2 (noT g1 g2 g3 g4) (by rw [j3, hv]))⟩
  have ct : ∀ (p b w : Nat) (τ : Int) (h2 : xb_H) (v s : Int32), fpb τ p b → v.toInt = w → (w = 32 ∨ w = 64) → w = nmr o → fW p b a → eF ex rw_ [5, 6, 7] h h2 → eK ex rw_ f h2 → eP ex τ h2 → (s ≠ 0 ↔ o % 2 = 0) → nmt o a 0 = cutT p b w a (o % 2 = 0) → nmv o a 0 = fcw p b w a → xb_k h2 ex = 10 ∧ w_Exact_cut ex x v s h2 (fun r3 h3 => xb_ext h2 h3 → Qr r3 h3) := fun p b w τ h2 v s hb hv w6 hw wx f2 k2 m2 hs ht hn => by
    obtain ⟨t1, t2, t3⟩ := cutT_c (p := p) (b := b) (w := w) (a := a) (s := o % 2 = 0)
    refine ⟨k2.1.1, xr_ecut k2 m2 hb hv w6 hx wx (fun r h' j1 j2 j3 j4 j5 _ => hQ r h' f ((f2.tr j1).mono (by decide)) j2 ?_ ?_) (fun c h' j1 j2 j3 j4 _ => hT c h' f ((f2.tr j1).mono (by decide)) j2 j3 ?_ ?_)⟩
    · rw [ht, t2 j3 ((fok_s hs).mp j4)]
    · rw [← hw, j5, hn]
      unfold fcw
      have : (0 : Int) < (2 ^ w : Nat) := by
        have : 0 < 2 ^ w := Nat.pow_pos (by decide)
        omega
      have g := Int.emod_lt_of_pos (if a < fS p b then (fwp p b a : Int) else -(fwp p b a : Int)) this
      have g' := Int.emod_nonneg (if a < fS p b then (fwp p b a : Int) else -(fwp p b a : Int)) (Int.ne_of_gt this)
      exact (Nat.mod_eq_of_lt (by omega)).symm
    · rcases j4 with ⟨q1, q2⟩ | ⟨q1, q2, q3⟩
      · rw [ht, t1 q1]
        decide
      · rw [ht, t3 q1 (fun h9 => q2 ((fok_s hs).mpr h9))]
        decide
    · rcases j4 with ⟨q1, q2⟩ | ⟨q1, q2, q3⟩
      · rw [ht, t1 q1, q2]
        rfl
      · rw [ht, t3 q1 (fun h9 => q2 ((fok_s hs).mpr h9)), q3]
        rfl
  have asis : ¬ (o = 168 ∨ o = 169) → ¬ (o = 170 ∨ o = 171) → ¬ (o = 174 ∨ o = 175) → ¬ (o = 176 ∨ o = 177) → (∀ r : Int64, r.toBitVec.toNat % 2 ^ nmr o = nmv o a 0 % 2 ^ nmr o → Qr r h) := fun g1 g2 g3 g4 r hr => hQ r h f eF.rf hk (noT g1 g2 g3 g4) hr
  have L41 : ∀ t : Int32, (t ≠ 0 ↔ o % 2 = 0) → (o = 168 ∨ o = 169) ∨ (o = 170 ∨ o = 171) ∨ (o = 174 ∨ o = 175) ∨ (o = 176 ∨ o = 177) → w_Exact_turnedInto_L41 Qr ex x1 x t h := fun t ht ho => by
    unfold w_Exact_turnedInto_L41
    refine sp_efirst hx1 (by omega) h2' (fun r2 e2 _ => ?_)
    have r2' : r2 = 2 ↔ (o = 168 ∨ o = 169 ∨ o = 174 ∨ o = 175) := by
      rw [z_eq, e2, show (2 : Int32).toInt = 2 from rfl]
      rcases ho with (e | e) | (e | e) | (e | e) | (e | e) <;> subst e <;> decide
    unfold w_Exact_turnedInto_L57 w_Exact_turnedInto_L76
    rw [r2', ge 172 172 rfl]
    refine ⟨fun e => ⟨k1, xr_eformat (τ := 124) hk (.inr ⟨rfl, rfl⟩) (fun h2 f2 k2 m2 _ => ⟨fun g => ct 53 1023 64 124 h2 64 t b53 rfl (.inr rfl) ?_ ?_ f2 k2 m2 ht ?_ ?_, fun g => ct 53 1023 32 124 h2 32 t b53 rfl (.inl rfl) ?_ ?_ f2 k2 m2 ht ?_ ?_⟩)⟩, fun e => ⟨k1, xr_eformat (τ := 125) hk (.inl ⟨rfl, rfl⟩) (fun h2 f2 k2 m2 _ => ⟨fun g => ct 24 127 64 125 h2 64 t b24 rfl (.inr rfl) ?_ ?_ f2 k2 m2 ht ?_ ?_, fun g => ct 24 127 32 125 h2 32 t b24 rfl (.inl rfl) ?_ ?_ f2 k2 m2 ht ?_ ?_⟩)⟩⟩
    all_goals clear ct rf fl asis hQ hT
    · have : o = 176 ∨ o = 177 := by omega
      rcases this with e | e <;> subst e <;> rfl
    · have : o = 176 ∨ o = 177 := by omega
      rw [fW_53]
      rcases this with e | e <;> subst e <;> exact wa
    · have : o = 176 ∨ o = 177 := by omega
      rcases this with e | e <;> subst e <;> rfl
    · have : o = 176 ∨ o = 177 := by omega
      rcases this with e | e <;> subst e <;> rfl
    · have : o = 170 ∨ o = 171 := by omega
      rcases this with e | e <;> subst e <;> rfl
    · have : o = 170 ∨ o = 171 := by omega
      rw [fW_53]
      rcases this with e | e <;> subst e <;> exact wa
    · have : o = 170 ∨ o = 171 := by omega
      rcases this with e | e <;> subst e <;> rfl
    · have : o = 170 ∨ o = 171 := by omega
      rcases this with e | e <;> subst e <;> rfl
    · have : o = 174 ∨ o = 175 := by omega
      rcases this with e | e <;> subst e <;> rfl
    · have : o = 174 ∨ o = 175 := by omega
      rw [fW_24]
      rcases this with e | e <;> subst e <;> exact wa
    · have : o = 174 ∨ o = 175 := by omega
      rcases this with e | e <;> subst e <;> rfl
    · have : o = 174 ∨ o = 175 := by omega
      rcases this with e | e <;> subst e <;> rfl
    · have : o = 168 ∨ o = 169 := by omega
      rcases this with e | e <;> subst e <;> rfl
    · have : o = 168 ∨ o = 169 := by omega
      rw [fW_24]
      rcases this with e | e <;> subst e <;> exact wa
    · have : o = 168 ∨ o = 169 := by omega
      rcases this with e | e <;> subst e <;> rfl
    · have : o = 168 ∨ o = 169 := by omega
      rcases this with e | e <;> subst e <;> rfl
  have L82 : ∀ t : Int32, (t ≠ 0 ↔ o % 2 = 0) → ¬ (o = 168 ∨ o = 169) → ¬ (o = 170 ∨ o = 171) → ¬ (o = 174 ∨ o = 175) → ¬ (o = 176 ∨ o = 177) → w_Exact_turnedInto_L82 Qr ex x1 x t h := fun t ht g1 g2 g3 g4 => by
    have A := asis g1 g2 g3 g4
    have t0 : t = 0 ↔ ¬ o % 2 = 0 := by rw [← ht]; exact ⟨fun h9 h8 => h8 h9, fun h9 => Classical.byContradiction h9⟩
    have L160 : (o = 172 ∨ o = 173) → w_Exact_turnedInto_L160 Qr x t h := fun ho => by
      unfold w_Exact_turnedInto_L160 w_Exact_turnedInto_L175
      rw [t0]
      refine ⟨fun e => A _ ?_, fun e => ?_⟩
      · have : o = 173 := by omega
        subst this
        rw [hx]
        rfl
      · have : o = 172 := by omega
        subst this
        refine xr_withSign (w := 32) rfl (.inl rfl) hx wa (fun r hr _ => A _ ?_)
        have c1 := Z_nat r
        rw [hr] at c1
        have e9 : nmv 172 a 0 = (sgn 32 a % (2 ^ 64 : Nat)).toNat := rfl
        have e8 : r.toBitVec.toNat = (sgn 32 a % (18446744073709551616 : Nat)).toNat := by omega
        rw [e9, e8]
    have L176 : (o = 178 ∨ o = 179 ∨ o = 180 ∨ o = 181) → w_Exact_turnedInto_L176 Qr ex x1 x t h := fun ho => by
      unfold w_Exact_turnedInto_L176 w_Exact_turnedInto_L204 w_Exact_turnedInto_L205
      rw [t0, ge 180 180 rfl]
      refine ⟨k1, xr_eformat (τ := 125) hk (.inl ⟨rfl, rfl⟩) (fun h2 f2 k2 m2 _ => ⟨fun e => fl 24 127 125 h2 t x b24 f2 k2 m2 g1 g2 g3 g4 ?_, fun e => ⟨fun e2 => fl 24 127 125 h2 t x b24 f2 k2 m2 g1 g2 g3 g4 ?_, fun e2 => ?_⟩⟩)⟩
      · rw [if_pos (t0.mpr e), hx]
        have : o = 179 ∨ o = 181 := by omega
        rcases this with e9 | e9 <;> subst e9 <;> rfl
      · have : o = 180 := by omega
        subst this
        rw [if_neg (fun h9 => t0.mp h9 (by decide)), fow_x (sg64 x), hx]
        rfl
      · have : o = 178 := by omega
        subst this
        refine xr_withSign (w := 32) rfl (.inl rfl) hx wa (fun r hr _ => fl 24 127 125 h2 t r b24 f2 k2 m2 g1 g2 g3 g4 ?_)
        rw [if_neg (fun h9 => t0.mp h9 (by decide)), fow_x hr]
        rfl
    have L211 : (o = 183 ∨ o = 184 ∨ o = 185 ∨ o = 186) → w_Exact_turnedInto_L211 Qr ex x1 x t h := fun ho => by
      unfold w_Exact_turnedInto_L211 w_Exact_turnedInto_L235 w_Exact_turnedInto_L245
      rw [t0, c 183 183 rfl]
      refine ⟨k1, xr_eformat (τ := 124) hk (.inr ⟨rfl, rfl⟩) (fun h2 f2 k2 m2 _ => ⟨fun e => ⟨fun e2 => fl 53 1023 124 h2 0 x b53 f2 k2 m2 g1 g2 g3 g4 ?_, fun e2 => fl 53 1023 124 h2 1 x b53 f2 k2 m2 g1 g2 g3 g4 ?_⟩, fun e => ?_⟩)⟩
      · have : o = 184 ∨ o = 186 := by omega
        rw [if_pos rfl, hx]
        rcases this with e9 | e9 <;> subst e9 <;> rfl
      · have : o = 185 := by omega
        subst this
        rw [if_neg (by decide), fow_x (sg64 x), hx]
        rfl
      · subst e
        refine xr_withSign (w := 32) rfl (.inl rfl) hx wa (fun r hr _ => ⟨fun e2 => absurd (by decide) e2, fun e2 => fl 53 1023 124 h2 1 r b53 f2 k2 m2 g1 g2 g3 g4 ?_⟩)
        rw [if_neg (by decide), fow_x hr]
        rfl
    have L249 : (o = 182 ∨ o = 187) → w_Exact_turnedInto_L249 Qr ex x1 x h := fun ho => by
      unfold w_Exact_turnedInto_L249 w_Exact_turnedInto_L264 w_Exact_turnedInto_L283
      rw [c 182 182 rfl]
      refine ⟨fun e => ⟨k1, xr_eformat (τ := 125) hk (.inl ⟨rfl, rfl⟩) (fun h2 f2 k2 m2 _ => ⟨fun _ => ?_, fun h9 => absurd h9 e⟩)⟩, fun e => ⟨k1, xr_eformat (τ := 124) hk (.inr ⟨rfl, rfl⟩) (fun h2 f2 k2 m2 _ => ⟨fun h9 => absurd e h9, fun _ => ?_⟩)⟩⟩
      · have : o = 187 := by omega
        subst this
        exact rf 24 127 53 1023 125 124 h2 64 b24 b53 (.inr ⟨rfl, rfl⟩) (fW_24.mpr wa) f2 k2 m2 g1 g2 g3 g4 rfl
      · subst e
        exact rf 53 1023 24 127 124 125 h2 32 b53 b24 (.inl ⟨rfl, rfl⟩) (fW_53.mpr wa) f2 k2 m2 g1 g2 g3 g4 rfl
    unfold w_Exact_turnedInto_L82 w_Exact_turnedInto_L287
    rw [c 172 172 rfl, c 173 173 rfl, c 174 174 rfl, c 175 175 rfl, c 176 176 rfl, c 177 177 rfl, c 178 178 rfl, c 179 179 rfl, c 180 180 rfl, c 181 181 rfl, c 182 182 rfl, c 183 183 rfl, c 184 184 rfl, c 185 185 rfl, c 186 186 rfl, c 187 187 rfl]
    refine ⟨fun e => L160 (.inl e), fun e => L160 (.inr e), fun e => absurd (.inl e) g3, fun e => absurd (.inr e) g3, fun e => absurd (.inl e) g4, fun e => absurd (.inr e) g4, fun e => L176 (by omega), fun e => L176 (by omega), fun e => L176 (by omega), fun e => L176 (by omega), fun e => L249 (.inl e), fun e => L211 (by omega), fun e => L211 (by omega), fun e => L211 (by omega), fun e => L211 (by omega), fun e => L249 (.inr e), fun _ _ _ _ _ _ _ _ _ _ _ _ _ _ _ _ => A _ ?_⟩
    have : o = 167 ∨ o = 188 ∨ o = 189 ∨ o = 190 ∨ o = 191 := by omega
    rw [hx]
    rcases this with e9 | e9 | e9 | e9 | e9 <;> subst e9
    · show a % 2 ^ 32 = a % 2 ^ 32 % 2 ^ 32
      rw [Nat.mod_mod]
    · rfl
    · rfl
    · rfl
    · rfl
  have L27 : ∀ t : Int32, (t ≠ 0 ↔ o % 2 = 0) → ¬ (o = 168 ∨ o = 169) → ¬ (o = 170 ∨ o = 171) → w_Exact_turnedInto_L27 Qr ex x1 x t h := fun t ht g1 g2 => by
    unfold w_Exact_turnedInto_L27
    rw [lt 174 174 rfl, gt 177 177 rfl]
    exact ⟨fun e => L82 t ht g1 g2 (by omega) (by omega), fun e => ⟨fun e2 => L82 t ht g1 g2 (by omega) (by omega), fun e2 => L41 t ht (by omega)⟩⟩
  have L11 : ∀ t : Int32, (t ≠ 0 ↔ o % 2 = 0) → w_Exact_turnedInto_L11 Qr ex x1 x t h := fun t ht => by
    unfold w_Exact_turnedInto_L11
    rw [lt 168 168 rfl, le 171 171 rfl]
    exact ⟨fun e => L27 t ht (by omega) (by omega), fun e => ⟨fun e2 => L41 t ht (by omega), fun e2 => L27 t ht (by omega) (by omega)⟩⟩
  unfold w_Exact_turnedInto
  rw [ev]
  exact ⟨fun e => L11 0 ⟨fun h9 => absurd rfl h9, fun h9 => absurd h9 e⟩, fun e => L11 1 ⟨fun _ => e, fun _ => by decide⟩⟩
end XFH

-- the law
section LW2
variable {h0 : xb_H} {σ x0 x1 mm x3 L : Nat} {xs : Nat → Int32} {Qr : Int32 → xb_H → Nat → Nat → Prop}
set_option maxHeartbeats 4000000 in
set_option maxRecDepth 100000 in
theorem law_L23 (hL : L ≤ 3072) (hQ : ∀ (H : xb_H) (bc bs : Nat), Qr 1 H bc bs) : ∀ (K i : Nat) (x4 : Int32) (H : xb_H) (bc bs : Nat), i + K = 512 → x4.toInt = (6 * i : Nat) → jP σ x1 mm x3 K K H bc bs → w2_Law_law_L23 σ L xs Qr (K + 1) x0 x1 mm x3 x4 H bc bs := by
  have cond : (nI L - 6).toInt = (L : Int) - 6 := by
    rw [z_sub, z_nI (by omega), show (6 : Int32).toInt = 6 from rfl]
    omega
  intro K
  induction K with
  | zero =>
    intro i x4 H bc bs hi hx hP
    unfold w2_Law_law_L23
    refine ⟨fun _ => hQ _ _ _, fun hle => ?_⟩
    exfalso
    apply hle
    rw [z_lt, cond, hx]
    omega
  | succ K ih =>
    intro i x4 H bc bs hi hx hP
    have x6 : (x4 + 6).toInt = (6 * (i + 1) : Nat) := by
      have := z_ad2 (a := 6 * i) (y := 6) (w := 6) hx rfl (by omega) (by omega)
      omega
    have nx : ∀ (H2 : xb_H) (b2 s2 : Nat), jP σ x1 mm x3 K K H2 b2 s2 → w2_Law_law_L23 σ L xs Qr (K + 1) x0 x1 mm x3 (x4 + 6) H2 b2 s2 := fun H2 b2 s2 p => ih (i + 1) (x4 + 6) H2 b2 s2 (by omega) x6 p
    unfold w2_Law_law_L23
    refine ⟨fun _ => hQ _ _ _, fun hle => ?_⟩
    rw [z_lt, cond, hx] at hle
    have v0 : vp_in x4 L := by rw [z_in, hx]; omega
    have V1 : vp_in (x4 + 1) L := by
      rw [z_in, z_ad2 (a := 6 * i) (w := 1) hx rfl (by omega) (by omega)]
      omega
    have V2 : vp_in (x4 + 2) L := by
      rw [z_in, z_ad2 (a := 6 * i) (w := 2) hx rfl (by omega) (by omega)]
      omega
    have V3 : vp_in (x4 + 3) L := by
      rw [z_in, z_ad2 (a := 6 * i) (w := 3) hx rfl (by omega) (by omega)]
      omega
    have V4 : vp_in (x4 + 4) L := by
      rw [z_in, z_ad2 (a := 6 * i) (w := 4) hx rfl (by omega) (by omega)]
      omega
    have V5 : vp_in (x4 + 5) L := by
      rw [z_in, z_ad2 (a := 6 * i) (w := 5) hx rfl (by omega) (by omega)]
      omega
    refine ⟨v0, ?_, ?_, ?_, ?_, ?_, ?_, ?_, ?_, ?_, ?_, ?_, ?_, ?_, ?_, ?_, ?_, ?_, ?_, ?_, ?_, ?_, ?_, ?_, ?_, ?_, ?_, ?_⟩
    · exact fun _ => ⟨V1, V2, V3, V4, V5, lw_feed hP (fun r H1 b1 s1 p1 _ => ⟨V1, V2, V3, V4, V5, (jP_k p1).2, mw_feed p1 (fun r2 H2 p2 => nx _ _ _ p2)⟩)⟩
    · exact fun _ => ⟨V1, lw_end hP (fun r H1 b1 s1 p1 _ => ⟨V1, (jP_k p1).2, mw_end p1 (fun H2 p2 => nx _ _ _ p2)⟩)⟩
    · exact fun _ => lw_load hP (fun r H1 b1 s1 p1 _ => ⟨(jP_k p1).2, mw_load p1 (fun r2 H2 b2 s2 p2 => nx _ _ _ p2)⟩)
    · exact fun _ => ⟨V1, lw_fault hP (fun r H1 b1 s1 p1 _ => ⟨V1, (jP_k p1).2, mw_fault p1 (fun r2 H2 p2 => nx _ _ _ p2)⟩)⟩
    · exact fun _ => ⟨V1, V2, lw_module hP (fun r H1 b1 s1 p1 _ => ⟨V1, V2, (jP_k p1).2, mw_module p1 (fun r2 H2 p2 => nx _ _ _ p2)⟩)⟩
    · exact fun _ => ⟨V1, V2, lw_room hP (fun r H1 b1 s1 p1 _ => ⟨V1, V2, (jP_k p1).2, mw_room p1 (fun r2 H2 p2 => nx _ _ _ p2)⟩)⟩
    · exact fun _ => ⟨V1, lw_instantiate hP (fun r H1 b1 s1 p1 _ => ⟨V1, (jP_k p1).2, mw_instantiate p1 (fun r2 H2 b2 s2 p2 => nx _ _ _ p2)⟩)⟩
    · exact fun _ => ⟨V1, lw_name hP (fun r H1 b1 s1 p1 _ => ⟨V1, (jP_k p1).2, mw_name1 p1 (fun H2 b2 s2 p2 => nx _ _ _ p2)⟩)⟩
    · exact fun _ => ⟨V1, lw_find hP (fun r H1 b1 s1 p1 _ => ⟨V1, (jP_k p1).2, mw_find p1 (fun r2 H2 b2 s2 p2 => nx _ _ _ p2)⟩)⟩
    · exact fun _ => ⟨V1, V2, V3, lw_exported hP (fun r H1 b1 s1 p1 _ => ⟨V1, V2, V3, (jP_k p1).2, mw_exported p1 (fun r2 H2 p2 => nx _ _ _ p2)⟩)⟩
    · exact fun _ => ⟨V1, V2, lw_push hP (fun r H1 b1 s1 p1 _ => ⟨V1, V2, (jP_k p1).2, mw_push p1 (fun r2 H2 p2 => nx _ _ _ p2)⟩)⟩
    · exact fun _ => ⟨V1, V2, lw_invoke hP (fun r H1 b1 s1 p1 _ => ⟨V1, V2, (jP_k p1).2, mw_invoke p1 (fun H2 p2 => nx _ _ _ p2)⟩)⟩
    · exact fun _ => ⟨V1, lw_run hP (fun r H1 b1 s1 p1 _ => ⟨V1, (jP_k p1).2, mw_run p1 (fun r2 H2 p2 => nx _ _ _ p2)⟩)⟩
    · exact fun _ => ⟨(jP_k hP).1, lh_stop hP (fun r H1 p1 _ => ⟨(jP_k p1).2, mw_stop p1 (fun r2 H2 p2 => nx _ _ _ p2)⟩)⟩
    · exact fun _ => ⟨(jP_k hP).1, lh_calls hP (fun r H1 p1 _ => ⟨(jP_k p1).2, mw_calls p1 (fun r2 H2 p2 => nx _ _ _ p2)⟩)⟩
    · exact fun _ => ⟨(jP_k hP).1, lh_result hP (fun r H1 p1 _ => ⟨(jP_k p1).2, mw_result p1 (fun r2 H2 p2 => nx _ _ _ p2)⟩)⟩
    · exact fun _ => ⟨V1, lw_trap hP (fun r H1 b1 s1 p1 _ => ⟨V1, (jP_k p1).2, mw_trap p1 (fun r2 H2 p2 => nx _ _ _ p2)⟩)⟩
    · exact fun _ => ⟨V1, lw_pages hP (fun r H1 b1 s1 p1 _ => ⟨V1, (jP_k p1).2, mw_pages p1 (fun r2 H2 p2 => nx _ _ _ p2)⟩)⟩
    · exact fun _ => ⟨V1, V2, lw_peek hP (fun r H1 b1 s1 p1 _ => ⟨V1, V2, (jP_k p1).2, mw_peek p1 (fun r2 H2 p2 => nx _ _ _ p2)⟩)⟩
    · exact fun _ => ⟨V1, V2, V3, lw_poke hP (fun r H1 b1 s1 p1 _ => ⟨V1, V2, V3, (jP_k p1).2, mw_poke p1 (fun H2 p2 => nx _ _ _ p2)⟩)⟩
    · exact fun _ => ⟨V1, V2, lw_variable hP (fun r H1 b1 s1 p1 _ => ⟨V1, V2, (jP_k p1).2, mw_variable p1 (fun r2 H2 p2 => nx _ _ _ p2)⟩)⟩
    · exact fun _ => ⟨V1, V2, lw_element hP (fun r H1 b1 s1 p1 _ => ⟨V1, V2, (jP_k p1).2, mw_element p1 (fun r2 H2 p2 => nx _ _ _ p2)⟩)⟩
    · exact fun _ => ⟨(jP_k hP).1, fun _ => ⟨(jP_k hP).2, mw_wrong (jP_dn hP) (fun H2 p2 => ⟨fun _ => nx _ _ _ p2, fun h9 => absurd rfl h9⟩)⟩⟩
    · exact fun _ => ⟨(jP_k hP).1, lh_outs hP (fun r H1 p1 _ => ⟨(jP_k p1).2, mw_outs p1 (fun r2 H2 p2 => nx _ _ _ p2)⟩)⟩
    · exact fun _ => ⟨V1, lw_out hP (fun r H1 b1 s1 p1 _ => ⟨V1, (jP_k p1).2, mw_out p1 (fun r2 H2 p2 => nx _ _ _ p2)⟩)⟩
    · exact fun _ => ⟨(jP_k hP).1, lh_clear hP (fun r H1 p1 _ => ⟨(jP_k p1).2, mw_clear p1 (fun r2 H2 p2 => nx _ _ _ p2)⟩)⟩
    · intros
      exact nx _ _ _ (jP_dr (jP_dn hP))
theorem law_all {bc bs : Nat} (DM : Nat → zM) (hL : L ≤ 3072) (hbc : 313000 ≤ bc) (hbs : 7000000 ≤ bs) : w2_Law_law σ L xs x0 h0 bc bs (fun r _ _ _ => r = 1) := by
  unfold w2_Law_law
  refine ⟨by omega, by omega, fun q1 z1 h2 e2 => ?_⟩
  refine ho_init (σ := σ) (own0 := fun _ => 600) z1 e2 (by omega) (by omega) (fun h4 oc ad bc5 bs5 a0 fr ex4 hI l9 l1 l31 l37 hb hs _ => ?_)
  refine ⟨by omega, by omega, fun q6 z6 h7 e7 => ?_⟩
  refine m_init (own0 := fun _ => 0) (c := bc5 - 58) (s := bs5 - 1546528) DM z6 e7 (by omega) (by omega) (fun orr A h9 bc10 bs10 f9 ex9 hA me hb10 hs10 _ => ?_)
  refine ⟨by omega, by omega, fun q11 z11 h12 e12 => ⟨513, ?_⟩⟩
  have ne11 : ∀ a, xb_k h9 a ≠ 0 → a ≠ q11 := fun a ha e => ha (e ▸ z11)
  have ex12 : xb_ext h9 h12 := by rw [e12]; exact xh_exN h9 _ _ z11
  have sm12 : ∀ a, xb_k h9 a ≠ 0 → xh_sm h9 h12 a := fun a ha => by rw [e12]; exact xh_smN h9 _ _ (ne11 a ha)
  have o1 : ∀ a, xb_k h4 a ≠ 0 → (if xb_k h4 a = 0 then 600 else oc a) = oc a := fun a ha => if_neg ha
  have z49 : ∀ a, xb_k h4 a ≠ 0 → xb_k h9 a ≠ 0 := fun a ha => ext_nz ex9 ha
  have hI9 := cI_fz (own' := fun a => if xb_k h4 a = 0 then 600 else oc a) hI ⟨o1, ex9, fun a ha _ => (f9 a ha).2⟩
  have hI12 := cI_fz (own' := nown (fun a => if xb_k h4 a = 0 then 600 else oc a) q11 500) hI9 ⟨fun a ha => nown_ne (ne11 a ha), ex12, fun a ha _ => sm12 a ha⟩
  obtain ⟨g1, g2⟩ := rA_hR (own' := nown orr q11 500) hA (fun a ha => nown_ne (ne11 a ha)) (by rw [← me]; exact ex12) (fun a ha _ => by rw [← me]; exact sm12 a ha)
  have ln : ∀ k, k < 41 → xb_n h12 (ad k) = xb_n h4 (ad k) := fun k hk9 => by
    have z := hI.1.1.z k hk9
    rw [(ex12 _ (z49 _ z)).2, (ex9 _ z).2]
  have cl := cC_ln (ad := ad) (h := h4) (h' := h12) (W := W0) (ts := 0) (K := 512) ln
  have c4 : cC ad h4 W0 0 512 ≤ 295000 := by
    unfold cC xC s9 rP
    dsimp only
    rw [l1, l31, l37, l9 16 (by decide), l9 19 (by decide), l9 21 (by decide), l9 23 (by decide), l9 25 (by decide), l9 27 (by decide), l9 29 (by decide), l9 32 (by decide), l9 34 (by decide)]
    decide
  have c5 : cS_ ad h4 W0 0 512 ≤ 4000000 := by
    unfold cS_ xS s9 rP
    rw [l1, l31, l37, l9 16 (by decide), l9 19 (by decide), l9 21 (by decide), l9 23 (by decide), l9 25 (by decide), l9 27 (by decide), l9 29 (by decide), l9 32 (by decide), l9 34 (by decide)]
    decide
  refine law_L23 hL (fun H bc bs => rfl) 512 0 0 h12 _ _ rfl rfl ⟨_, _, A, h12, xb_i h12, fun _ => 0, DM, 2048, 1024, ad, W0, 0, g2, g1, a0, hI12, ?_, fun a ha h6 => ?_, ⟨nown_eq, nown_eq, by rw [e12, xh_kN, if_pos rfl], by rw [e12, xh_nN, if_pos rfl]⟩⟩
  · rw [cl.1, cl.2]
    unfold refC refS
    omega
  · by_cases e9 : a = q11
    · rw [e9, nown_eq] at h6
      omega
    · rw [nown_ne e9] at h6 ⊢
      by_cases z4 : xb_k h4 a = 0
      · have h7 : (if xb_k h4 a = 0 then 600 else oc a) < 60 := h6
        rw [if_pos z4] at h7
        omega
      · rw [(f9 a z4).1]
        omega
end LW2

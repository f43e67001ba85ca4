-- class and reference side by side
/-- what belongs to the class stays -/
def fz (own own' : Nat → Nat) (h h' : xb_H) : Prop := (∀ a, xb_k h a ≠ 0 → own' a = own a) ∧ xb_ext h h' ∧ ∀ a, xb_k h a ≠ 0 → own a < 60 → xh_sm h h' a
def cC (ad : Nat → Nat) (h : xb_H) (W : wD) (ts K : Nat) : Nat := xC ad h W ts K + vP (xb_n h (ad 37)) / 8 + s9 (fun r => rP h ad r / 8)
def cS_ (ad : Nat → Nat) (h : xb_H) (W : wD) (ts K : Nat) : Nat := xS ad h W ts K + vP (xb_n h (ad 37)) + s9 (rP h ad)
def refC (len rl K : Nat) : Nat := (16384 - len) / 1024 + (512000 - rl) / 1024 + K
def refS (len rl K : Nat) : Nat := 4 * (16384 - len) + 2 * (512000 - rl) + 8 * K
section FR1
variable {own own' ad : Nat → Nat} {h h' : xb_H} {W : wD} {σ ts K rc rs bc bs bc' bs' len rl : Nat}
theorem cG_cC : cG ad h W ts K rc rs bc bs ↔ rc + cC ad h W ts K ≤ bc ∧ rs + cS_ ad h W ts K ≤ bs := by
  unfold cG bgv bg cC cS_
  constructor
  · rintro ⟨h1, h2⟩
    exact ⟨by omega, by omega⟩
  · rintro ⟨h1, h2⟩
    exact ⟨by omega, by omega⟩
theorem cC_ln (e : ∀ k, k < 41 → xb_n h' (ad k) = xb_n h (ad k)) : cC ad h' W ts K = cC ad h W ts K ∧ cS_ ad h' W ts K = cS_ ad h W ts K := by
  have e0 : ∀ r ∈ rwl, rP h' ad r = rP h ad r := fun r hr => by
    have h9 : ∀ r ∈ rwl, r + 1 < 41 := by decide
    unfold rP
    rw [e _ (h9 r hr)]
  unfold cC cS_ xC xS s9
  dsimp only
  rw [e 1 (by omega), e 31 (by omega), e 37 (by omega), e0 16 (by decide), e0 19 (by decide), e0 21 (by decide), e0 23 (by decide), e0 25 (by decide), e0 27 (by decide), e0 29 (by decide), e0 32 (by decide), e0 34 (by decide)]
  exact ⟨rfl, rfl⟩
theorem cB_fz (hB : cB own ad h) (f : fz own own' h h') : cB own' ad h' := by
  obtain ⟨f1, f2, f3⟩ := f
  have z : ∀ k, k < 41 → xb_k h (ad k) ≠ 0 := fun k hk => hB.z k hk
  refine ⟨fun k hk => ⟨by rw [f1 _ (z k hk)]; exact (hB.1 k hk).1, by rw [(f2 _ (z k hk)).1]; exact (hB.1 k hk).2⟩, fun e he => ?_⟩
  obtain ⟨l1, -⟩ := cRl_lt e he
  rw [(f3 _ (z _ l1) (by rw [hB.o _ l1]; omega)).2.2]
  exact hB.2 e he
theorem cI_fz (hI : cI own ad h W σ ts K) (f : fz own own' h h') : cI own' ad h' W σ ts K := by
  obtain ⟨⟨hB, hW, hS, hr, hF⟩, ⟨t1, t2, t3, t4, t5⟩, ⟨m1, mc, m2, m3, m4⟩, ⟨r1, r2, r3⟩, ⟨na, a1, a2⟩, n1, n2, n3, n4⟩ := hI
  have hB' := cB_fz hB f
  obtain ⟨f1, e, f3⟩ := f
  have sm : ∀ k, k < 41 → xh_sm h h' (ad k) := fun k hk => f3 _ (hB.z k hk) (by rw [hB.o k hk]; omega)
  have nn : ∀ k, k < 41 → xb_n h' (ad k) = xb_n h (ad k) := fun k hk => (e _ (hB.z k hk)).2
  have hW' : wI own' ad h' W σ := hW.fr hB (fun a ha h9 => f3 a ha (by unfold wtg at h9; omega)) e f1 (fun _ _ => rfl)
  have hr' : rS ad h' W := hr.cg rfl rfl rfl (sm 15 (by omega)) (sm 37 (by omega)) (sm 38 (by omega)) (nn 37 (by omega))
  refine ⟨⟨hB', hW', ?_, hr', ⟨hF.1.sm (sm 39 (by omega)) e, hF.2.sm (sm 40 (by omega)) e⟩⟩, ⟨?_, ?_, ?_, ?_, fun j => ?_⟩, ⟨?_, mc, ?_, m3, fun i hi => ?_⟩, ⟨?_, ?_, fun k hk => ?_⟩, ⟨na, a1.fr (sm 16 (by omega)) e, a2⟩, ?_, ?_, ?_, ?_⟩
  · unfold mS
    rw [nn 36 (by omega), nn 37 (by omega), nn 38 (by omega)]
    exact hS
  · rw [(sm 0 (by omega)).1]; exact t1
  · rw [nn 1 (by omega)]; exact t2
  · rw [nn 1 (by omega)]; exact t3
  · rw [nn 1 (by omega)]; exact t4
  · rw [(sm 1 (by omega)).1]; exact t5 j
  · rw [nn 2 (by omega)]; exact m1
  · rw [(sm 0 (by omega)).1]; exact m2
  · obtain ⟨md, d, j1, j2⟩ := m4 i hi
    exact ⟨md, d, by rw [(sm 2 (by omega)).2.2]; exact j1, j2.fr (fun a h1 h2 => f3 a h1 (by omega)) e (fun a h1 h2 => by rw [f1 a h1]; exact h2)⟩
  · rw [nn 4 (by omega)]; exact r1
  · rw [nn 6 (by omega)]; exact r2
  · rw [nn _ (by omega)]; exact r3 k hk
  · rw [(sm 29 (by omega)).1]; exact n1
  · rw [(sm 14 (by omega)).1]; exact n2
  · rw [nn 31 (by omega)]; exact n3
  · rw [nn 31 (by omega)]; exact n4
end FR1
section FR2
variable {own own' : Nat → Nat} {mm : Nat} {A A' : Nat → Nat} {h h' H' : xb_H} {F F' : Nat → Nat → Int32} {v v' : Nat → Int32} {DM : Nat → zM} {len rl K : Nat}
theorem zT_fz (hz : zT own own' h F h' F') (hm : own mm = 60) (he : xb_ext (mH h F mm v) (mH h' F' mm v')) : fz own own' (mH h F mm v) (mH h' F' mm v') := by
  refine ⟨fun a ha => (hz.1 a ha).2, he, fun a ha h6 => ?_⟩
  obtain ⟨z1, z2, z3, z4, z5⟩ := hz.2 a h6 ha
  have nm : a ≠ mm := fun e => by
    rw [e] at h6
    omega
  exact ⟨by rw [mH_o nm, mH_o nm]; exact z5, z3, z4⟩
theorem fz_L {H : xb_H} {a k : Nat} {x : Int64} (ha : 60 ≤ own a) : fz own own H (xb_L H a k x) :=
  ⟨fun _ _ => rfl, fun _ _ => ⟨rfl, rfl⟩, fun b _ hb => xh_smL H k x (fun e => by rw [e] at hb; omega)⟩
theorem eK_pw {ex rw_ : Nat} {f : Nat → Nat} (hk : eK ex rw_ f h) (e1 : xb_k h' ex = xb_k h ex) (e2 : xb_k h' rw_ = xb_k h rw_) (e3 : xb_n h' rw_ = xb_n h rw_) (e4 : xb_r h' ex = xb_r h ex) (e5 : xb_i h' ex = xb_i h ex) (e6 : xb_i h' rw_ = xb_i h rw_) : eK ex rw_ f h' := by
  unfold eK eX
  rw [e1, e2, e3, e4, e5, e6]
  exact hk
theorem mH_self (hv : xb_i H' mm = v) : H' = mH H' (xb_i H') mm v := by
  have e : va_up (xb_i H') mm v = xb_i H' := by
    funext a
    rw [xh_up]
    split
    · rename_i e9
      rw [e9, hv]
    · rfl
  unfold mH
  rw [e]
  rfl
/-- the reference, after a call of the class -/
theorem rA_hR (hA : rA own mm A h F v DM len rl K) (g1 : ∀ a, xb_k (mH h F mm v) a ≠ 0 → own' a = own a) (g2 : xb_ext (mH h F mm v) H') (g3 : ∀ a, xb_k (mH h F mm v) a ≠ 0 → 60 ≤ own a → xh_sm (mH h F mm v) H' a) : rA own' mm A H' (xb_i H') v DM len rl K ∧ H' = mH H' (xb_i H') mm v := by
  obtain ⟨hB, hl, ⟨l1, l2, l3, l4, l5⟩, ⟨rw_, f, o3, hk⟩, hI⟩ := hA
  have zm : xb_k (mH h F mm v) mm ≠ 0 := by
    show xb_k h mm ≠ 0
    rw [hB.2.1]
    omega
  have zA : ∀ e ∈ aL, xb_k (mH h F mm v) (A e.1) ≠ 0 := fun e he => hB.pk e he
  have sA : ∀ e ∈ aL, xh_sm (mH h F mm v) H' (A e.1) := fun e he => g3 _ (zA e he) (by rw [(hB.2.2 e he).2.2.1]; omega)
  have iA : ∀ e ∈ aL, xb_i H' (A e.1) = F (A e.1) := fun e he => by
    rw [(sA e he).1, mH_o (hB.nm ⟨e, he, rfl⟩)]
  have sm := g3 mm zm (by rw [hB.1]; omega)
  have im : xb_i H' mm = v := by
    rw [sm.1, mH_i]
  have nA : ∀ e ∈ aL, xb_n H' (A e.1) = xb_n h (A e.1) := fun e he => (g2 _ (zA e he)).2
  have hB' : mB own' mm A H' := by
    refine ⟨by rw [g1 mm zm]; exact hB.1, by rw [(g2 mm zm).1]; exact hB.2.1, fun e he => ?_⟩
    obtain ⟨b1, b2, b3, b4⟩ := hB.2.2 e he
    exact ⟨by rw [sm.2.2]; exact b1, by rw [(g2 _ (zA e he)).1]; exact b2, by rw [g1 _ (zA e he)]; exact b3, by rw [nA e he]; exact b4⟩
  have me := mH_self im
  refine ⟨⟨hB', ?_, ⟨?_, l2, l3, l4, l5⟩, ⟨rw_, f, ?_, ?_⟩, hI.cg (fun k hk => ?_) (fun _ _ => rfl)⟩, me⟩
  · unfold lenE
    rw [nA (11, 102, 0) (by decide), nA (12, 102, 0) (by decide)]
    exact hl
  · rw [nA (33, 102, 0) (by decide)]
    exact l1
  · rw [g1 rw_ (by rw [hk.1.2.2.1]; omega)]
    exact o3
  · rw [← me]
    have zr : xb_k (mH h F mm v) rw_ ≠ 0 := by rw [hk.1.2.2.1]; omega
    have sr := g3 rw_ zr (by rw [o3]; omega)
    have s9 := sA (90, 10, 0) (by decide)
    have z9 := zA (90, 10, 0) (by decide)
    exact eK_pw hk (g2 _ z9).1 (g2 _ zr).1 (g2 _ zr).2 s9.2.2 s9.1 sr.1
  · have al : ∀ k, k ∈ aRI → ∃ e ∈ aL, e.1 = k := by decide
    obtain ⟨e, he, rfl⟩ := al k hk
    exact iA e he
end FR2
